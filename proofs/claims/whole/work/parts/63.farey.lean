/-! ## the row: counting without common divisors -/
def n_S (f : Nat → Int) : Nat → Int
  | 0 => 0
  | n + 1 => n_S f n + f (n + 1)
theorem n_S_congr {f h : Nat → Int} : ∀ n : Nat, (∀ d, 1 ≤ d → d ≤ n → f d = h d) → n_S f n = n_S h n
  | 0, _ => rfl
  | n + 1, e => by unfold n_S; rw [n_S_congr n (fun d h1 h2 => e d h1 (by omega)), e (n + 1) (by omega) (by omega)]
theorem n_S_add (f h : Nat → Int) : ∀ n : Nat, n_S (fun d => f d + h d) n = n_S f n + n_S h n
  | 0 => rfl
  | n + 1 => by unfold n_S; rw [n_S_add f h n]; omega
theorem n_S_zero {f : Nat → Int} : ∀ n : Nat, (∀ d, 1 ≤ d → d ≤ n → f d = 0) → n_S f n = 0
  | 0, _ => rfl
  | n + 1, e => by unfold n_S; rw [n_S_zero n (fun d h1 h2 => e d h1 (by omega)), e (n + 1) (by omega) (by omega)]; rfl
theorem n_S_ext {f : Nat → Int} (a : Nat) : ∀ m : Nat, (∀ d, a < d → d ≤ a + m → f d = 0) → n_S f (a + m) = n_S f a
  | 0, _ => rfl
  | m + 1, e => by
    show n_S f (a + m) + f (a + m + 1) = _
    rw [n_S_ext a m (fun d h1 h2 => e d h1 (by omega)), e (a + m + 1) (by omega) (by omega)]; omega
theorem n_S_le {f : Nat → Int} {c : Int} (hc : 0 ≤ c) : ∀ n : Nat, (∀ d, 1 ≤ d → d ≤ n → -c ≤ f d ∧ f d ≤ c) → -(n * c) ≤ n_S f n ∧ n_S f n ≤ n * c
  | 0, _ => by unfold n_S; simp
  | n + 1, e => by
    have ih := n_S_le hc n (fun d h1 h2 => e d h1 (by omega))
    have := e (n + 1) (by omega) (by omega)
    unfold n_S
    rw [Int.natCast_add, Int.add_mul]
    omega
theorem n_sd {a d : Nat} (hd : 1 ≤ d) : (a + 1) / d = a / d + (if (a + 1) % d = 0 then 1 else 0) := by
  have h1 := Nat.div_add_mod a d
  have h2 := Nat.mod_lt a (show d > 0 by omega)
  by_cases c : a % d + 1 = d
  · have e : a + 1 = d * (a / d + 1) := by rw [Nat.mul_add]; omega
    have e2 : (a + 1) % d = 0 := by rw [e]; exact Nat.mul_mod_right _ _
    rw [if_pos e2]
    conv => lhs; rw [e]
    exact Nat.mul_div_cancel_left _ (by omega)
  · have e : a + 1 = (a % d + 1) + d * (a / d) := by omega
    have e2 : (a + 1) % d = a % d + 1 := by
      conv => lhs; rw [e]
      rw [Nat.add_mul_mod_self_left, Nat.mod_eq_of_lt (by omega)]
    rw [if_neg (by omega)]
    conv => lhs; rw [e]
    rw [Nat.add_mul_div_left _ _ (by omega), Nat.div_eq_of_lt (by omega)]; omega
/-- only multiples -/
theorem n_S_mul (f : Nat → Int) {B : Nat} (hB : 1 ≤ B) : ∀ n : Nat, n_S (fun k => if k % B = 0 then f k else 0) n = n_S (fun j => f (B * j)) (n / B)
  | 0 => by rw [Nat.zero_div]; rfl
  | n + 1 => by
    show n_S (fun k => if k % B = 0 then f k else 0) n + (if (n + 1) % B = 0 then f (n + 1) else 0) = _
    rw [n_S_mul f hB n, n_sd hB]
    by_cases c : (n + 1) % B = 0
    · rw [if_pos c, if_pos c]
      show _ = n_S (fun j => f (B * j)) (n / B) + f (B * (n / B + 1))
      have e : B * (n / B + 1) = n + 1 := by
        have h1 := Nat.div_add_mod (n + 1) B
        rw [n_sd hB, if_pos c, c] at h1
        exact h1
      rw [e]
    · rw [if_neg c, if_neg c]; simp
def n_Mm (m : Nat) : Int := n_MmT.getD m 0
def n_Mu (m : Nat) : Int := n_muT.getD m 0
theorem n_Mm_le : ∀ m < 201, -8 ≤ n_Mm m ∧ n_Mm m ≤ 8 := by decide +kernel
theorem n_Mu_le : ∀ m < 201, -1 ≤ n_Mu m ∧ n_Mu m ≤ 1 := by decide +kernel
theorem n_Mm_1 : ∀ m < 201, 1 ≤ m → n_S (fun j => n_Mm (m / j)) m = 1 := by decide +kernel
theorem n_Mu_1 : ∀ g < 201, 1 ≤ g → n_S (fun d => if g % d = 0 then n_Mu d else 0) 200 = if g = 1 then 1 else 0 := by decide +kernel
/-- how many lie below t by b, told by the sums -/
def n_CU (o : Nat) (t b : Int) : Int := if t ≤ 0 then 0 else 1 + n_S (fun k => ((t * k + b - 1) / b - 1) * n_Mm (o / k)) o
def n_VO (o : Nat) : Int := 1 + (n_S (fun d => n_Mu d * ((o / d : Nat) : Int) * ((o / d : Nat) : Int)) 200 + 1) / 2
theorem n_CU_11 : ∀ o < 201, 1 ≤ o → 1 + n_S (fun k => ((k : Int) - 1) * n_Mm (o / k)) o = n_VO o - 1 ∧ n_VO o ≤ 12233 := by decide +kernel
