/-! ## games -/
def n_V (a b : Int) : Nat → Bool → Int
  | 0, _ => a + b
  | d + 1, true => if n_V a (a + b) d false < n_V (a + b) b d false then n_V (a + b) b d false else n_V a (a + b) d false
  | d + 1, false => if n_V (a + b) b d true < n_V a (a + b) d true then n_V (a + b) b d true else n_V a (a + b) d true
theorem s_F_playOut {X : z_X} {N : Nat} {σ g : z_G} : ∀ (n d : Nat) (a b : Int) (w : Bool) (Q : z_P), n ≤ d → d ≤ 20 → 0 ≤ a → 0 ≤ b → (a + b) * 2 ^ n ≤ 100000000 → Q (n_V a b n w) g → z_O X (d + 1) m_F_playOut [(0, a), (0, b), (0, (n : Int)), (0, if w then 1 else 0)] N σ g Q := by
  intro n
  induction n with
  | zero =>
    intro d a b w Q h1 h2 h3 h4 h5 hq
    rw [Int.pow_zero, Int.mul_one] at h5
    exact b_F_playOut_0 ⟨by omega, fun p => absurd p (by omega), fun _ => hq⟩
  | succ n ih =>
    intro d a b w Q h1 h2 h3 h4 h5 hq
    obtain ⟨d, rfl⟩ : ∃ d', d = d' + 1 := ⟨d - 1, by omega⟩
    rw [Int.pow_succ, ← Int.mul_assoc, Int.mul_comm _ 2] at h5
    have e1 : (1 : Int) ≤ 2 ^ n := Int.pow_pos (by omega)
    have e2 : (a + b) * 1 ≤ (a + b) * 2 ^ n := Int.mul_le_mul_of_nonneg_left e1 (by omega)
    have l1 : (a + (a + b)) * 2 ^ n ≤ 100000000 := by
      have := Int.mul_le_mul_of_nonneg_right (show a + (a + b) ≤ 2 * (a + b) by omega) (show (0 : Int) ≤ 2 ^ n by omega)
      rw [Int.mul_assoc] at this; omega
    have l2 : (a + b + b) * 2 ^ n ≤ 100000000 := by
      have := Int.mul_le_mul_of_nonneg_right (show a + b + b ≤ 2 * (a + b) by omega) (show (0 : Int) ≤ 2 ^ n by omega)
      rw [Int.mul_assoc] at this; omega
    have en : (((n + 1 : Nat) : Int) - 1) = (n : Int) := by omega
    refine b_F_playOut_0 ⟨by omega, fun _ => ⟨by omega, fun p => ?_, fun p => ?_⟩, fun p => absurd (by omega) p⟩
    · have hw : w = false := by cases w <;> simp_all
      subst hw
      rw [en]
      refine ih d a (a + b) true _ (by omega) (by omega) h3 (by omega) l1 (ih d (a + b) b true _ (by omega) (by omega) (by omega) h4 l2 ?_)
      unfold n_V at hq
      exact ⟨fun c => by rw [if_pos c] at hq; exact hq, fun c => by rw [if_neg c] at hq; exact hq⟩
    · have hw : w = true := by cases w <;> simp_all
      subst hw
      rw [en]
      refine ih d a (a + b) false _ (by omega) (by omega) h3 (by omega) l1 (ih d (a + b) b false _ (by omega) (by omega) (by omega) h4 l2 ?_)
      unfold n_V at hq
      exact ⟨fun c => by rw [if_pos c] at hq; exact hq, fun c => by rw [if_neg c] at hq; exact hq⟩
def n_P (l h : Int) : Nat → Nat → Int × Int
  | 0, _ => (l, h)
  | L + 1, k => if k % 2 = 0 then ((n_P l h L (k / 2)).1, (n_P l h L (k / 2)).1 + (n_P l h L (k / 2)).2) else ((n_P l h L (k / 2)).1 + (n_P l h L (k / 2)).2, (n_P l h L (k / 2)).2)
theorem n_P_e (l h : Int) (L k : Nat) : n_P l h (L + 1) (2 * k) = ((n_P l h L k).1, (n_P l h L k).1 + (n_P l h L k).2) := by
  unfold n_P; rw [if_pos (by omega), show 2 * k / 2 = k by omega]; cases L <;> rfl
theorem n_P_o (l h : Int) (L k : Nat) : n_P l h (L + 1) (2 * k + 1) = ((n_P l h L k).1 + (n_P l h L k).2, (n_P l h L k).2) := by
  unfold n_P; rw [if_neg (by omega), show (2 * k + 1) / 2 = k by omega]; cases L <;> rfl
theorem n_P_le {l h : Int} (h0 : 0 ≤ l ∧ l ≤ 9999 ∧ 0 ≤ h ∧ h ≤ 9999) : ∀ L k : Nat, 0 ≤ (n_P l h L k).1 ∧ (n_P l h L k).1 ≤ 9999 * 2 ^ L ∧ 0 ≤ (n_P l h L k).2 ∧ (n_P l h L k).2 ≤ 9999 * 2 ^ L
  | 0, k => by simp only [n_P, Int.pow_zero]; omega
  | L + 1, k => by
    have ih := n_P_le h0 L (k / 2)
    unfold n_P
    rw [Int.pow_succ]
    split <;> dsimp only <;> omega
theorem n_2p : ∀ n : Nat, n < 11 → Int32.toInt (Int32.ofInt 1 <<< (Int32.ofInt (n : Int) &&& 31)) = 2 ^ n ∧ (2 : Int) ^ n ≤ 1024 ∧ (1 : Int) ≤ 2 ^ n := by decide
theorem s_M_plays {X : z_X} {N : Nat} {σ g : z_G} {Q : z_P} (hm : z_lay X N σ 0 z_SM z_RM) {t b lt lb ht hb : Int} {n : Nat} (hn : n ≤ 10) (h0 : 0 < t ∧ t < b ∧ b ≤ 9999) (hs : n_sp lt lb ht hb) (e1 : lt + ht = t / Int.gcd t b) (e2 : lb + hb = b / Int.gcd t b) (hq : ∀ g', mS g g' → (n = 0 → g' 13 0 = n_V lb hb 0 true) → (1 ≤ n → g' 13 0 = n_V lb (lb + hb) (n - 1) false ∧ g' 13 1 = n_V (lb + hb) hb (n - 1) false) → Q 0 g') : z_O X 2 m_M_plays [(2, 0), (0, t), (0, b), (0, (n : Int))] N σ g Q := by
  have hp : 0 < Int.gcd t b := Int.gcd_pos_of_ne_zero_right t (by omega)
  have hb9 : lb + hb ≤ 9999 := by
    have := Int.ediv_le_self (a := b) (Int.gcd t b : Int) (by omega)
    omega
  have hs' := hs
  obtain ⟨g1, g2, g3, g4, g5, g6⟩ := hs'
  have hle := n_P_le (l := lb) (h := hb) (by omega)
  refine b_M_plays_0 hm (s_M_common (by omega) (by omega) ⟨by omega, ?_⟩)
  rw [n_td (by omega), n_td (by omega), ← e1, ← e2]
  refine s_M_findsChild hm hs hb9 (Or.inl rfl) ?_
  rw [if_pos rfl]
  have z29 : z_up (z_up g 0 28 (lt + ht + lt)) 0 29 (lb + hb + lb) 0 29 = lb + hb + lb := z_u1
  rw [z29, show lb + hb + lb - (lb + hb) = lb by omega, show lb + hb - lb = hb by omega]
  refine ⟨by omega, by omega, ?_⟩
  -- the values of a layer, folded
  have fold : ∀ (r : Nat) (L : Nat) (g' : z_G), L = r + 1 → L ≤ n → mS g g' → (∀ k : Nat, (k : Int) < 2 ^ L → g' 13 k = n_V (n_P lb hb L k).1 (n_P lb hb L k).2 (n - L) (L % 2 == 0)) → L_M_plays_202 X N σ ((L : Int) - 1) g' Q := by
    intro r
    induction r with
    | zero =>
      intro L g' hL h1 h2 h3
      subst hL
      refine b_M_plays_202 hm ⟨fun _ => hq g' h2 (fun q => by omega) (fun _ => ⟨?_, ?_⟩), fun p => absurd (by omega) p⟩
      · have := h3 0 (by decide)
        rw [show (0 + 1 : Nat) = 0 + 1 from rfl, show n_P lb hb (0 + 1) 0 = (lb, lb + hb) from n_P_e lb hb 0 0] at this
        exact this
      · have := h3 1 (by decide)
        rw [show n_P lb hb (0 + 1) 1 = (lb + hb, hb) from n_P_o lb hb 0 0] at this
        exact this
    | succ r ih =>
      intro L g' hL h1 h2 h3
      subst hL
      rw [show (((r + 1 + 1 : Nat) : Int) - 1) = ((r + 1 : Nat) : Int) by omega]
      refine b_M_plays_202 hm ⟨fun p => absurd p (by omega), fun _ => ?_⟩
      obtain ⟨s1, s2, s3⟩ := n_2p (r + 1) (by omega)
      have s4 := n_2p (r + 1 + 1) (by omega)
      have s5 : (2 : Int) ^ (r + 1 + 1) = 2 * 2 ^ (r + 1) := by rw [Int.pow_succ, Int.mul_comm]
      have par : ((r + 1 + 1) % 2 == 0) = !((r + 1) % 2 == 0) := by
        rcases (show (r + 1) % 2 = 0 ∨ (r + 1) % 2 = 1 by omega) with c | c
        · rw [show (r + 1 + 1) % 2 = 1 by omega, c]; rfl
        · rw [show (r + 1 + 1) % 2 = 0 by omega, c]; rfl
      have inner : ∀ (m k : Nat) (g2 : z_G), (2 : Int) ^ (r + 1) ≤ k + m → (k : Int) ≤ 2 ^ (r + 1) → mS g g2 → (∀ i : Nat, (i : Int) < 2 ^ (r + 1) → i < k → g2 13 i = n_V (n_P lb hb (r + 1) i).1 (n_P lb hb (r + 1) i).2 (n - (r + 1)) ((r + 1) % 2 == 0)) → (∀ i : Nat, (i : Int) < 2 ^ (r + 1 + 1) → k ≤ i → g2 13 i = n_V (n_P lb hb (r + 1 + 1) i).1 (n_P lb hb (r + 1 + 1) i).2 (n - (r + 1 + 1)) ((r + 1 + 1) % 2 == 0)) → L_M_plays_210 X N σ ((r + 1 : Nat) : Int) k g2 Q := by
        intro m
        have fin : ∀ (k : Nat) (g2 : z_G), (k : Int) = 2 ^ (r + 1) → mS g g2 → (∀ i : Nat, (i : Int) < 2 ^ (r + 1) → i < k → g2 13 i = n_V (n_P lb hb (r + 1) i).1 (n_P lb hb (r + 1) i).2 (n - (r + 1)) ((r + 1) % 2 == 0)) → L_M_plays_210 X N σ ((r + 1 : Nat) : Int) k g2 Q := by
          intro k g2 k1 k2 k3
          refine b_M_plays_210 hm ?_
          rw [s1]
          exact ⟨fun _ => ⟨by omega, ih (r + 1) g2 rfl (by omega) k2 (fun i hi => k3 i hi (by omega))⟩, fun p => absurd (by omega) p⟩
        induction m with
        | zero => exact fun k g2 k1 k2 k3 k4 k5 => fin k g2 (by omega) k3 k4
        | succ m ihm =>
          intro k g2 k1 k2 k3 k4 k5
          by_cases c : (k : Int) = 2 ^ (r + 1)
          · exact fin k g2 c k3 k4
          · have v0 := k5 (2 * k) (by omega) (by omega)
            have v1 := k5 (2 * k + 1) (by omega) (by omega)
            rw [n_P_e] at v0
            rw [n_P_o] at v1
            dsimp only at v0 v1
            have en : n - (r + 1) = n - (r + 1 + 1) + 1 := by omega
            have nx : ∀ v : Int, v = n_V (n_P lb hb (r + 1) k).1 (n_P lb hb (r + 1) k).2 (n - (r + 1)) ((r + 1) % 2 == 0) → L_M_plays_210 X N σ ((r + 1 : Nat) : Int) ((k : Int) + 1) (z_up g2 13 k v) Q := fun v hv => ihm (k + 1) _ (by omega) (by omega) (k3.up (by unfold mP mK; omega)) (fun i i1 i2 => by
                by_cases ci : i = k
                · rw [ci, z_u1, hv]
                · rw [z_u2 (Or.inr (by omega))]; exact k4 i i1 (by omega)) (fun i i1 i2 => by rw [z_u2 (Or.inr (by omega))]; exact k5 i i1 (by omega))
            rw [en] at nx
            refine b_M_plays_210 hm ?_
            rw [s1, show (2 : Int) * (k : Int) = ((2 * k : Nat) : Int) by omega, show ((2 * k : Nat) : Int) + 1 = ((2 * k + 1 : Nat) : Int) by omega, v0, v1, par]
            refine ⟨fun p => absurd p (by omega), fun _ => ⟨by omega, by omega, by omega, by omega, fun p => ?_, fun p => ?_⟩⟩
            · rw [n_tm (by omega)] at p
              have pe : ((r + 1) % 2 == 0) = true := by rw [beq_iff_eq]; omega
              rw [pe] at nx ⊢
              refine ⟨fun q => ⟨by omega, by omega, nx _ ?_⟩, fun q => ⟨by omega, by omega, nx _ ?_⟩⟩
              · show _ = n_V _ _ (_ + 1) true
                rw [n_V]; exact (if_pos q).symm
              · show _ = n_V _ _ (_ + 1) true
                rw [n_V]; exact (if_neg q).symm
            · rw [n_tm (by omega)] at p
              have pe : ((r + 1) % 2 == 0) = false := by
                rw [show (r + 1) % 2 = 1 by omega]; rfl
              rw [pe] at nx ⊢
              refine ⟨fun q => ⟨by omega, by omega, nx _ ?_⟩, fun q => ⟨by omega, by omega, nx _ ?_⟩⟩
              · show _ = n_V _ _ (_ + 1) false
                rw [n_V]; exact (if_pos q).symm
              · show _ = n_V _ _ (_ + 1) false
                rw [n_V]; exact (if_neg q).symm
      exact inner ((2 : Int) ^ (r + 1)).toNat 0 g' (by omega) (by omega) h2 (fun i _ h => by omega) (fun i h _ => h3 i h)
  -- the ends
  obtain ⟨s1, s2, s3⟩ := n_2p n (by omega)
  have ends : ∀ (m k : Nat) (g' : z_G), (2 : Int) ^ n ≤ k + m → (k : Int) ≤ 2 ^ n → mS g g' → (∀ i : Nat, (i : Int) < 2 ^ n → g' 11 i = (n_P lb hb n i).1 ∧ g' 12 i = (n_P lb hb n i).2) → (∀ i : Nat, i < k → g' 13 i = (n_P lb hb n i).1 + (n_P lb hb n i).2) → L_M_plays_161 X N σ n k g' Q := by
    intro m
    have fin : ∀ (k : Nat) (g' : z_G), (k : Int) = 2 ^ n → mS g g' → (∀ i : Nat, i < k → g' 13 i = (n_P lb hb n i).1 + (n_P lb hb n i).2) → L_M_plays_161 X N σ n k g' Q := by
      intro k g' k1 k2 k3
      refine b_M_plays_161 hm ?_
      rw [s1]
      refine ⟨fun _ => ⟨by omega, ?_⟩, fun p => absurd (by omega) p⟩
      by_cases c : n = 0
      · subst c
        refine b_M_plays_202 hm ⟨fun _ => hq g' k2 (fun _ => ?_) (fun p => by omega), fun p => absurd (by omega) p⟩
        rw [Int.pow_zero] at k1
        exact k3 0 (by omega)
      · refine fold (n - 1) n g' (by omega) (by omega) k2 (fun i hi => ?_)
        rw [Nat.sub_self, k3 i (by omega)]; rfl
    induction m with
    | zero => exact fun k g' k1 k2 k3 k4 k5 => fin k g' (by omega) k3 k5
    | succ m ih =>
      intro k g' k1 k2 k3 k4 k5
      by_cases c : (k : Int) = 2 ^ n
      · exact fin k g' c k3 k5
      · have v := k4 k (by omega)
        have l := hle n k
        refine b_M_plays_161 hm ?_
        rw [s1, v.1, v.2]
        refine ⟨fun p => absurd p (by omega), fun _ => ⟨by omega, by omega, by omega, ih (k + 1) _ (by omega) (by omega) (k3.up (by unfold mP mK; omega)) (fun i hi => by rw [z_u2 (by omega), z_u2 (by omega)]; exact k4 i hi) (fun i hi => ?_)⟩⟩
        by_cases ci : i = k
        · rw [ci, z_u1]
        · rw [z_u2 (Or.inr (by omega))]; exact k5 i (by omega)
  -- the layers
  have lays : ∀ (r L : Nat) (g' : z_G), L + r = n → mS g g' → (∀ i : Nat, (i : Int) < 2 ^ L → g' 11 i = (n_P lb hb L i).1 ∧ g' 12 i = (n_P lb hb L i).2) → L_M_plays_55 X N σ n L g' Q := by
    intro r
    induction r with
    | zero =>
      intro L g' k1 k2 k3
      have : L = n := by omega
      subst this
      exact b_M_plays_55 hm ⟨fun _ => ends ((2 : Int) ^ L).toNat 0 g' (by omega) (by omega) k2 k3 (fun i hi => by omega), fun p => absurd (by omega) p⟩
    | succ r ih =>
      intro L g' k1 k2 k3
      obtain ⟨u1, u2, u3⟩ := n_2p L (by omega)
      have u4 := n_2p (L + 1) (by omega)
      have u5 : (2 : Int) ^ (L + 1) = 2 * 2 ^ L := by rw [Int.pow_succ, Int.mul_comm]
      refine b_M_plays_55 hm ?_
      rw [u1]
      refine ⟨fun p => absurd p (by omega), fun _ => ⟨by omega, ?_⟩⟩
      have inner : ∀ (j : Nat) (g2 : z_G), (j : Int) ≤ 2 ^ L → mS g g2 → (∀ i : Nat, i < j → g2 11 i = (n_P lb hb L i).1 ∧ g2 12 i = (n_P lb hb L i).2) → (∀ i : Nat, (i : Int) < 2 ^ (L + 1) → j ≤ i / 2 → g2 11 i = (n_P lb hb (L + 1) i).1 ∧ g2 12 i = (n_P lb hb (L + 1) i).2) → L_M_plays_69 X N σ n L ((j : Int) - 1) g2 Q := by
        intro j
        induction j with
        | zero => exact fun g2 j1 j2 j3 j4 => b_M_plays_69 hm ⟨fun _ => ⟨by omega, ih (L + 1) g2 (by omega) j2 (fun i hi => j4 i hi (by omega))⟩, fun p => absurd (by omega) p⟩
        | succ j ihj =>
          intro g2 j1 j2 j3 j4
          rw [show (((j + 1 : Nat) : Int) - 1) = (j : Int) by omega]
          have v := j3 j (by omega)
          have l := hle L j
          refine b_M_plays_69 hm ?_
          rw [v.1, v.2]
          refine ⟨fun p => absurd p (by omega), fun _ => ⟨by omega, by omega, by omega, by omega, by omega, by omega, by omega, ?_⟩⟩
          rw [show (j : Int) + -1 = (j : Int) - 1 by omega]
          refine ihj _ (by omega) ((((j2.up (by unfold mP mK; omega)).up (by unfold mP mK; omega)).up (by unfold mP mK; omega)).up (by unfold mP mK; omega)) (fun i hi => ?_) (fun i hi h2 => ?_)
          · rw [z_u2 (by omega), z_u2 (by omega), z_u2 (by omega), z_u2 (by omega), z_u2 (by omega), z_u2 (by omega), z_u2 (by omega), z_u2 (by omega)]
            exact j3 i (by omega)
          · by_cases ce : i = 2 * j
            · subst ce
              rw [n_P_e, show ((2 * j : Nat) : Int) = 2 * (j : Int) by omega]
              refine ⟨?_, ?_⟩
              · rw [z_u2 (by omega), z_u2 (by omega), z_u2 (by omega), z_u1]
              · rw [z_u2 (by omega), z_u2 (by omega), z_u1]
            · by_cases co : i = 2 * j + 1
              · subst co
                rw [n_P_o, show ((2 * j + 1 : Nat) : Int) = 2 * (j : Int) + 1 by omega]
                refine ⟨?_, ?_⟩
                · rw [z_u2 (by omega), z_u1]
                · rw [z_u1]
              · rw [z_u2 (by omega), z_u2 (by omega), z_u2 (by omega), z_u2 (by omega), z_u2 (by omega), z_u2 (by omega), z_u2 (by omega), z_u2 (by omega)]
                exact j4 i hi (by omega)
      have := inner ((2 : Int) ^ L).toNat g' (by omega) k2 (fun i hi => k3 i (by omega)) (fun i h1 h2 => by omega)
      rw [show (((2 ^ L : Int).toNat : Nat) : Int) = 2 ^ L by omega] at this
      exact this
  refine lays n 0 _ (by omega) ((((mS.rf.up (by unfold mP mK; omega)).up (by unfold mP mK; omega)).up (by unfold mP mK; omega)).up (by unfold mP mK; omega)) (fun i hi => ?_)
  rw [Int.pow_zero] at hi
  have : i = 0 := by omega
  subst this
  rw [z_u2 (by omega)]
  exact ⟨z_u1, z_u1⟩
theorem s_M_wrongGame {X : z_X} {N : Nat} {σ g : z_G} {Q : z_P} (hm : z_lay X N σ 0 z_SM z_RM) {t b n l : Int} (h1 : ¬ (1 ≤ b ∧ b ≤ 9999 ∧ 0 ≤ t ∧ t ≤ b ∧ l ≤ n ∧ n ≤ 10) → Q 1 g) (h7 : 1 ≤ b ∧ b ≤ 9999 ∧ 0 ≤ t ∧ t ≤ b ∧ l ≤ n ∧ n ≤ 10 → ¬ (0 < t ∧ t < b) → Q 7 g) (h0 : b ≤ 9999 ∧ 0 < t ∧ t < b ∧ l ≤ n ∧ n ≤ 10 → Q 0 g) : z_O X 2 m_M_wrongGame [(2, 0), (0, t), (0, b), (0, n), (0, l)] N σ g Q := by
  refine b_M_wrongGame_0 hm ?_
  repeat' (first | refine And.intro (by omega) ?_ | refine And.intro (fun _ => ?_) (fun q => absurd (by omega) q) | refine And.intro (fun q => absurd q (by omega)) (fun _ => ?_) | refine And.intro (fun _ => ?_) (fun _ => ?_) | refine And.intro (fun q => absurd q (by omega)) ?_ | refine And.intro (fun _ => ?_) ?_ | with_reducible intro _)
  all_goals first | exact h1 (by omega) | exact h7 (by omega) (by omega) | exact h0 (by omega)
theorem o_game {X Y : z_X} {N K : Nat} {σ τ gx gm : z_G} (hx : z_lay X N σ 0 z_SF z_RF) (hm : z_lay Y K τ 0 z_SM z_RM) (I : Inv gx gm) {a1 a2 a3 : Int} (r1 : -2147483648 ≤ a1 ∧ a1 ≤ 2147483647) (r2 : -2147483648 ≤ a2 ∧ a2 ≤ 2147483647) (r3 : -2147483648 ≤ a3 ∧ a3 ≤ 2147483647) : z_O X 15 m_F_game [(2, 0), (0, a1), (0, a2), (0, a3)] N σ gx (fun r gx' => z_O Y 3 m_M_game [(2, 0), (0, a1), (0, a2), (0, a3)] K τ gm (fun r' gm' => r' = r ∧ Inv gx' gm')) := by
  refine b_F_game_0 hx ⟨fun _ => b_M_game_0 hm (s_M_wrongGame hm (fun _ => ⟨fun p => absurd p (by omega), fun _ => ⟨rfl, I.fin xA.rf yA.rf I.2.2.2.2 1⟩⟩) (fun _ _ => by exfalso; omega) (fun _ => by exfalso; omega)), fun _ => ⟨fun _ => s_F_why hx (fun q => ?_) (fun q q2 g' hA => ?_) (fun q g' hc hf => ?_), fun _ => b_M_game_0 hm (s_M_wrongGame hm (fun _ => ⟨fun p => absurd p (by omega), fun _ => ⟨rfl, I.fin xA.rf yA.rf I.2.2.2.2 1⟩⟩) (fun _ _ => by exfalso; omega) (fun _ => by exfalso; omega))⟩⟩
  · exact ⟨fun p => absurd p (by omega), fun _ => b_M_game_0 hm (s_M_wrongGame hm (fun _ => ⟨fun p => absurd p (by omega), fun _ => ⟨rfl, I.fin xA.rf yA.rf I.2.2.2.2 1⟩⟩) (fun _ _ => by exfalso; omega) (fun _ => by exfalso; omega))⟩
  · exact ⟨fun p => absurd p (by omega), fun _ => b_M_game_0 hm (s_M_wrongGame hm (fun _ => by exfalso; omega) (fun _ _ => ⟨fun p => absurd p (by omega), fun _ => ⟨rfl, I.fin hA yA.rf I.2.2.2.2 7⟩⟩) (fun _ => by exfalso; omega))⟩
  · refine ⟨fun _ => s_Sp_standOn (o := 22) (p := 18) (ky_F_22 hx) (ky_F_18 hx) (by omega) hc (by omega) fun g1 lt lb ht hb hs e1 e2 u0 u1 u2 u3 u4 hf1 => ?_, fun p => absurd rfl p⟩
    have hA : xA gx g1 := fun c i hk => by unfold xK at hk; rw [hf1 c i (by omega), hf c i (by omega) (by omega)]
    have hb9 : lb + hb ≤ 9999 := by
      have := Int.ediv_le_self (a := a2) (Int.gcd a1 a2 : Int) (by omega)
      omega
    have hs' := hs
    obtain ⟨s1, s2, s3, s4, s5, s6⟩ := hs'
    obtain ⟨n, rfl⟩ : ∃ n : Nat, a3 = n := ⟨a3.toNat, by omega⟩
    have hpw : (2 : Int) ^ n ≤ 1024 := (n_2p n (by omega)).2.1
    rw [u1, u3]
    refine s_F_playOut n 13 lb hb true _ (by omega) (by omega) (by omega) (by omega) ?_ ?_
    · have a : (lb + hb) * 2 ^ n ≤ (lb + hb) * 1024 := Int.mul_le_mul_of_nonneg_left hpw (by omega)
      omega
    refine b_M_game_0 hm (s_M_wrongGame hm (fun _ => by exfalso; omega) (fun _ _ => by exfalso; omega) (fun _ => ⟨fun _ => s_M_plays hm (by omega) (by omega) hs e1 e2 fun gm1 m1 m2 m3 => ⟨fun p => ⟨?_, I.fin hA m1.y (m1.c I.2.2.2.2) 0⟩, fun p => ?_⟩, fun p => absurd (by omega) p⟩))
    · have : n = 0 := by omega
      subst this
      exact m2 rfl
    · obtain ⟨n, rfl⟩ : ∃ m : Nat, n = m + 1 := ⟨n - 1, by omega⟩
      obtain ⟨y1, y2⟩ := m3 (by omega)
      rw [y1, y2, show n + 1 - 1 = n by omega]
      refine ⟨fun c => ⟨?_, I.fin hA m1.y (m1.c I.2.2.2.2) 0⟩, fun c => ⟨?_, I.fin hA m1.y (m1.c I.2.2.2.2) 0⟩⟩
      · rw [n_V, if_pos c]
      · rw [n_V, if_neg c]
theorem o_moveOf {X Y : z_X} {N K : Nat} {σ τ gx gm : z_G} (hx : z_lay X N σ 0 z_SF z_RF) (hm : z_lay Y K τ 0 z_SM z_RM) (I : Inv gx gm) {a1 a2 a3 : Int} (r1 : -2147483648 ≤ a1 ∧ a1 ≤ 2147483647) (r2 : -2147483648 ≤ a2 ∧ a2 ≤ 2147483647) (r3 : -2147483648 ≤ a3 ∧ a3 ≤ 2147483647) : z_O X 15 m_F_moveOf [(2, 0), (0, a1), (0, a2), (0, a3)] N σ gx (fun r gx' => z_O Y 3 m_M_moveOf [(2, 0), (0, a1), (0, a2), (0, a3)] K τ gm (fun r' gm' => r' = r ∧ Inv gx' gm')) := by
  refine b_F_moveOf_0 hx ⟨fun _ => b_M_moveOf_0 hm (s_M_wrongGame hm (fun _ => ⟨fun p => absurd p (by omega), fun _ => ⟨rfl, I.fin xA.rf yA.rf I.2.2.2.2 1⟩⟩) (fun _ _ => by exfalso; omega) (fun _ => by exfalso; omega)), fun _ => ⟨fun _ => s_F_why hx (fun q => ?_) (fun q q2 g' hA => ?_) (fun q g' hc hf => ?_), fun _ => b_M_moveOf_0 hm (s_M_wrongGame hm (fun _ => ⟨fun p => absurd p (by omega), fun _ => ⟨rfl, I.fin xA.rf yA.rf I.2.2.2.2 1⟩⟩) (fun _ _ => by exfalso; omega) (fun _ => by exfalso; omega))⟩⟩
  · exact ⟨fun p => absurd p (by omega), fun _ => b_M_moveOf_0 hm (s_M_wrongGame hm (fun _ => ⟨fun p => absurd p (by omega), fun _ => ⟨rfl, I.fin xA.rf yA.rf I.2.2.2.2 1⟩⟩) (fun _ _ => by exfalso; omega) (fun _ => by exfalso; omega))⟩
  · exact ⟨fun p => absurd p (by omega), fun _ => b_M_moveOf_0 hm (s_M_wrongGame hm (fun _ => by exfalso; omega) (fun _ _ => ⟨fun p => absurd p (by omega), fun _ => ⟨rfl, I.fin hA yA.rf I.2.2.2.2 7⟩⟩) (fun _ => by exfalso; omega))⟩
  · refine ⟨fun _ => s_Sp_standOn (o := 22) (p := 18) (ky_F_22 hx) (ky_F_18 hx) (by omega) hc (by omega) fun g1 lt lb ht hb hs e1 e2 u0 u1 u2 u3 u4 hf1 => ?_, fun p => absurd rfl p⟩
    have hA : xA gx g1 := fun c i hk => by unfold xK at hk; rw [hf1 c i (by omega), hf c i (by omega) (by omega)]
    have hb9 : lb + hb ≤ 9999 := by
      have := Int.ediv_le_self (a := a2) (Int.gcd a1 a2 : Int) (by omega)
      omega
    have hs' := hs
    obtain ⟨s1, s2, s3, s4, s5, s6⟩ := hs'
    obtain ⟨n, rfl⟩ : ∃ n : Nat, a3 = n + 1 := ⟨a3.toNat - 1, by omega⟩
    have hpw : (2 : Int) ^ n ≤ 1024 := (n_2p n (by omega)).2.1
    have hpp : (0 : Int) ≤ 2 ^ n := by have := (n_2p n (by omega)).2.2; omega
    rw [u1, u3, show ((n : Int) + 1 - 1) = (n : Int) by omega]
    have a1' : (lb + (lb + hb)) * 2 ^ n ≤ (lb + (lb + hb)) * 1024 := Int.mul_le_mul_of_nonneg_left hpw (by omega)
    have a2' : (lb + hb + hb) * 2 ^ n ≤ (lb + hb + hb) * 1024 := Int.mul_le_mul_of_nonneg_left hpw (by omega)
    refine ⟨by omega, by omega, s_F_playOut n 13 lb (lb + hb) false _ (by omega) (by omega) (by omega) (by omega) (by omega) ?_⟩
    rw [u3]
    refine s_F_playOut n 13 (lb + hb) hb false _ (by omega) (by omega) (by omega) (by omega) (by omega) ?_
    have mrun : ∀ (r : Int) (gx' : z_G), (∀ gm1, mS gm gm1 → gm1 13 0 = n_V lb (lb + hb) n false → gm1 13 1 = n_V (lb + hb) hb n false → ((gm1 13 1 ≤ gm1 13 0) → (0 : Int) = r ∧ Inv gx' (z_up gm1 0 1 0)) ∧ (¬ (gm1 13 1 ≤ gm1 13 0) → (1 : Int) = r ∧ Inv gx' (z_up gm1 0 1 0))) → z_O Y 3 m_M_moveOf [(2, 0), (0, a1), (0, a2), (0, (n : Int) + 1)] K τ gm (fun r' gm' => r' = r ∧ Inv gx' gm') := by
      intro r gx' h
      refine b_M_moveOf_0 hm (s_M_wrongGame hm (fun _ => by exfalso; omega) (fun _ _ => by exfalso; omega) (fun _ => ⟨fun _ => ?_, fun p => absurd (by omega) p⟩))
      refine s_M_plays (n := n + 1) hm (by omega) (by omega) hs e1 e2 fun gm1 m1 m2 m3 => ?_
      obtain ⟨y1, y2⟩ := m3 (by omega)
      exact h gm1 m1 y1 y2
    refine ⟨fun c => mrun _ _ fun gm1 m1 y1 y2 => ?_, fun c => mrun _ _ fun gm1 m1 y1 y2 => ?_⟩
    · rw [y1, y2]
      exact ⟨fun p => absurd p (by omega), fun _ => ⟨rfl, I.fin hA m1.y (m1.c I.2.2.2.2) 0⟩⟩
    · rw [y1, y2]
      exact ⟨fun _ => ⟨rfl, I.fin hA m1.y (m1.c I.2.2.2.2) 0⟩, fun p => absurd (by omega) p⟩
