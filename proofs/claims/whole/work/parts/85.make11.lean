/-! making 11: what was made agrees with the reference (by hand: wip/whole/make/rows85.txt) -/
theorem mW_c : ∀ c : Nat, c ≠ 0 → mW0 c = fun _ => 0
  | 0, h => absurd rfl h
  | _ + 1, _ => rfl
theorem nz_W : NZ mW0 := ⟨fun c h _ => mW_c c h, fun i h => if_neg (by omega), fun c i h5 _ _ => by rw [mW_c c (by omega)], fun _ _ => rfl⟩
theorem rgz {x : Int32} {B : Nat} (h : x = 0) : rg x B := ⟨0, Nat.zero_le _, h⟩
theorem let_P : LET mP0 := by
  intro x w n a q hw i hi
  rcases hw with ⟨-, rfl, rfl, rfl, -⟩ | ⟨-, rfl, rfl, rfl, -⟩ | ⟨-, rfl, rfl, rfl, -⟩ | ⟨-, rfl, rfl, rfl, -⟩ | ⟨-, rfl, rfl, rfl, -⟩
  · rcases (show i = 0 ∨ i = 1 ∨ i = 2 ∨ i = 3 ∨ i = 4 by omega) with rfl | rfl | rfl | rfl | rfl <;> decide +kernel
  · rcases (show i = 0 ∨ i = 1 ∨ i = 2 ∨ i = 3 by omega) with rfl | rfl | rfl | rfl <;> decide +kernel
  · rcases (show i = 0 ∨ i = 1 ∨ i = 2 ∨ i = 3 ∨ i = 4 ∨ i = 5 by omega) with rfl | rfl | rfl | rfl | rfl | rfl <;> decide +kernel
  · rcases (show i = 0 ∨ i = 1 ∨ i = 2 ∨ i = 3 by omega) with rfl | rfl | rfl | rfl <;> decide +kernel
  · rcases (show i = 0 ∨ i = 1 ∨ i = 2 ∨ i = 3 by omega) with rfl | rfl | rfl | rfl <;> decide +kernel
theorem di_W : DI 0 0 mW0 := ⟨by decide, rfl, rfl, fun k h => absurd h (Nat.not_lt_zero k), fun k k' h => absurd h (Nat.not_lt_zero k), ⟨⟨100, by decide, rfl⟩, fun j _ => ⟨rgz rfl, rgz rfl, rgz rfl, rgz rfl, rgz rfl, rgz rfl, rgz rfl⟩, fun k _ => rgz rfl, fun j h => absurd h (Nat.not_lt_zero j)⟩, fun j _ => rgz rfl⟩
theorem wel_0 : WEL 0 0 mS0 mP0 := by
  refine ⟨nz_W, nz_W, di_W, by decide, ⟨?_, rfl, rfl, rfl⟩, ⟨0, 0, 0, by decide, by decide, by decide, ⟨rfl, rfl⟩, ⟨rfl, rfl⟩, ⟨rfl, rfl⟩, fun i _ => ⟨rfl, rfl⟩, fun i _ => ⟨rfl, fun h => absurd h (show ¬ (0 : Int32) = 1 from by decide)⟩, fun i _ => ⟨rfl, rfl⟩, fun i h => absurd h (Nat.not_lt_zero i), fun i h => absurd h (Nat.not_lt_zero i), fun i h => absurd h (Nat.not_lt_zero i)⟩⟩
  have e : up2 (mS0 1) 0 3 (mP0 0 34) = mW0 := by
    unfold up2
    funext c
    by_cases hc : c = 0
    · subst hc
      rw [setO_s]
      funext i
      unfold upd
      by_cases hi : i = 3
      · subst hi
        rw [if_pos rfl]
        rfl
      · rw [if_neg hi]
        rfl
    · rw [setO_n hc]
      rfl
  rw [e]
  exact WV.of rfl rfl rfl rfl rfl rfl rfl rfl rfl rfl rfl rfl rfl rfl
theorem rr_0 : RR mS0 (mS0 17) mL0 := by
  refine ⟨⟨0, 0, wel_0⟩, ⟨0, by decide, rfl, rfl, fun g h => absurd h (Nat.not_lt_zero g), ⟨rfl, rfl, rfl, rfl⟩, ⟨rfl, Or.inl rfl⟩, fun h => absurd rfl h⟩, ⟨0, by decide, rfl, rfl, rfl, let_P⟩, ⟨nz_W, rfl, fun h => absurd rfl h⟩, ⟨0, by decide, rfl, rfl, fun i h => absurd h (Nat.not_lt_zero i)⟩, fun t ht => ⟨rfl, Or.inl ?_⟩⟩
  rcases (show t = 0 ∨ t = 1 ∨ t = 2 ∨ t = 3 ∨ t = 4 ∨ t = 5 by omega) with rfl | rfl | rfl | rfl | rfl | rfl <;> decide +kernel
