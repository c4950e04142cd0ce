theorem z_st {lo a : Int} (h : lo ≤ a) (hn : ¬ a = lo) : lo + 1 ≤ a := by omega
def z_SCh : List (Nat × Nat) := [(0, 1), (1, 32)]
def z_RCh : List (Nat × Int × Nat) := [(0, 0, 1)]
def z_SSp : List (Nat × Nat) := [(0, 6)]
def z_RSp : List (Nat × Int × Nat) := []
def z_SPi : List (Nat × Nat) := [(0, 3), (1, 12), (1, 12), (1, 12)]
def z_RPi : List (Nat × Int × Nat) := [(0, 0, 1), (0, 1, 2), (0, 2, 3)]
def z_SVi : List (Nat × Nat) := [(0, 9), (1, 200)]
def z_RVi : List (Nat × Int × Nat) := [(0, 0, 1)]
def z_SPg : List (Nat × Nat) := [(0, 4), (1, 60), (1, 60), (1, 60), (1, 60), (1, 60)]
def z_RPg : List (Nat × Int × Nat) := [(0, 3, 1), (0, 4, 2), (0, 5, 3), (0, 6, 4), (0, 7, 5)]
def z_SBd : List (Nat × Nat) := [(0, 0), (0, 6), (0, 3), (1, 12), (1, 12), (1, 12), (0, 9), (1, 200), (0, 4), (1, 60), (1, 60), (1, 60), (1, 60), (1, 60)]
def z_RBd : List (Nat × Int × Nat) := [(0, 2, 1), (0, 3, 2), (0, 4, 6), (0, 5, 8), (2, 0, 3), (2, 1, 4), (2, 2, 5), (6, 0, 7), (8, 3, 9), (8, 4, 10), (8, 5, 11), (8, 6, 12), (8, 7, 13)]
def z_SWk : List (Nat × Nat) := [(0, 10), (1, 60)]
def z_RWk : List (Nat × Int × Nat) := [(0, 7, 1)]
def z_STr : List (Nat × Nat) := [(0, 8), (5, 4), (2, 60), (2, 60), (2, 60), (2, 60), (1, 4), (1, 4)]
def z_RTr : List (Nat × Int × Nat) := [(0, 0, 1), (0, 1, 6), (0, 2, 7), (1, 0, 2), (1, 1, 3), (1, 2, 4), (1, 3, 5)]
def z_STa : List (Nat × Nat) := [(0, 7), (3, 900)]
def z_RTa : List (Nat × Int × Nat) := [(0, 0, 1)]
def z_SPa : List (Nat × Nat) := [(0, 2), (0, 7), (3, 900), (0, 1), (1, 32), (1, 3)]
def z_RPa : List (Nat × Int × Nat) := [(0, 0, 1), (0, 1, 3), (0, 5, 5), (1, 0, 2), (3, 0, 4)]
def z_SRw : List (Nat × Nat) := [(0, 5), (1, 201), (1, 201)]
def z_RRw : List (Nat × Int × Nat) := [(0, 0, 1), (0, 1, 2)]
def z_SF : List (Nat × Nat) := [(0, 11), (0, 8), (5, 4), (2, 60), (2, 60), (2, 60), (2, 60), (1, 4), (1, 4), (0, 2), (0, 7), (3, 900), (0, 1), (1, 32), (1, 3), (0, 5), (1, 201), (1, 201), (0, 1), (1, 32), (0, 1), (1, 32), (0, 6), (0, 0), (0, 6), (0, 3), (1, 12), (1, 12), (1, 12), (0, 9), (1, 200), (0, 4), (1, 60), (1, 60), (1, 60), (1, 60), (1, 60), (0, 0), (0, 6), (0, 3), (1, 12), (1, 12), (1, 12), (0, 9), (1, 200), (0, 4), (1, 60), (1, 60), (1, 60), (1, 60), (1, 60), (6, 3), (0, 0), (0, 6), (0, 3), (1, 12), (1, 12), (1, 12), (0, 9), (1, 200), (0, 4), (1, 60), (1, 60), (1, 60), (1, 60), (1, 60), (0, 0), (0, 6), (0, 3), (1, 12), (1, 12), (1, 12), (0, 9), (1, 200), (0, 4), (1, 60), (1, 60), (1, 60), (1, 60), (1, 60), (0, 0), (0, 6), (0, 3), (1, 12), (1, 12), (1, 12), (0, 9), (1, 200), (0, 4), (1, 60), (1, 60), (1, 60), (1, 60), (1, 60), (0, 10), (1, 60), (0, 10), (1, 60)]
def z_RF : List (Nat × Int × Nat) := [(0, 3, 1), (1, 0, 2), (1, 1, 7), (1, 2, 8), (2, 0, 3), (2, 1, 4), (2, 2, 5), (2, 3, 6), (0, 4, 9), (9, 0, 10), (9, 1, 12), (9, 5, 14), (10, 0, 11), (12, 0, 13), (0, 7, 15), (15, 0, 16), (15, 1, 17), (0, 8, 18), (18, 0, 19), (0, 9, 20), (20, 0, 21), (0, 10, 22), (0, 11, 23), (23, 2, 24), (23, 3, 25), (23, 4, 29), (23, 5, 31), (25, 0, 26), (25, 1, 27), (25, 2, 28), (29, 0, 30), (31, 3, 32), (31, 4, 33), (31, 5, 34), (31, 6, 35), (31, 7, 36), (0, 12, 37), (37, 2, 38), (37, 3, 39), (37, 4, 43), (37, 5, 45), (39, 0, 40), (39, 1, 41), (39, 2, 42), (43, 0, 44), (45, 3, 46), (45, 4, 47), (45, 5, 48), (45, 6, 49), (45, 7, 50), (0, 13, 51), (51, 0, 52), (52, 2, 53), (52, 3, 54), (52, 4, 58), (52, 5, 60), (54, 0, 55), (54, 1, 56), (54, 2, 57), (58, 0, 59), (60, 3, 61), (60, 4, 62), (60, 5, 63), (60, 6, 64), (60, 7, 65), (51, 1, 66), (66, 2, 67), (66, 3, 68), (66, 4, 72), (66, 5, 74), (68, 0, 69), (68, 1, 70), (68, 2, 71), (72, 0, 73), (74, 3, 75), (74, 4, 76), (74, 5, 77), (74, 6, 78), (74, 7, 79), (51, 2, 80), (80, 2, 81), (80, 3, 82), (80, 4, 86), (80, 5, 88), (82, 0, 83), (82, 1, 84), (82, 2, 85), (86, 0, 87), (88, 3, 89), (88, 4, 90), (88, 5, 91), (88, 6, 92), (88, 7, 93), (0, 15, 94), (94, 7, 95), (0, 16, 96), (96, 7, 97)]
def z_SM : List (Nat × Nat) := [(0, 12), (1, 3296), (1, 4), (1, 4), (2, 240), (4, 900), (4, 900), (1, 3), (1, 12233), (1, 12233), (1, 40), (1, 1024), (1, 1024), (1, 1024), (2, 13), (1, 60), (1, 5), (1, 5)]
def z_RM : List (Nat × Int × Nat) := [(0, 0, 1), (0, 4, 2), (0, 5, 3), (0, 6, 4), (0, 7, 5), (0, 8, 6), (0, 19, 7), (0, 22, 8), (0, 23, 9), (0, 26, 10), (0, 31, 11), (0, 32, 12), (0, 33, 13), (0, 34, 14), (0, 37, 15), (0, 38, 16), (0, 39, 17)]
theorem ks_Ch_0 {X : z_X} {N : Nat} {σ : z_G} {o : Nat} (h : z_lay X N σ o z_SCh z_RCh) : z_sh X o = (0, 1) := by have h := h.1 0 _ rfl; exact h
theorem kl_Ch_0 {X : z_X} {N : Nat} {σ : z_G} {o : Nat} (h : z_lay X N σ o z_SCh z_RCh) : o < N := by have h := h.lt 0 rfl; exact h
theorem ks_Ch_1 {X : z_X} {N : Nat} {σ : z_G} {o : Nat} (h : z_lay X N σ o z_SCh z_RCh) : z_sh X (o + 1) = (1, 32) := by have h := h.1 1 _ rfl; exact h
theorem kl_Ch_1 {X : z_X} {N : Nat} {σ : z_G} {o : Nat} (h : z_lay X N σ o z_SCh z_RCh) : o + 1 < N := by have h := h.lt 1 rfl; exact h
theorem kr_Ch_0_0 {X : z_X} {N : Nat} {σ : z_G} {o : Nat} (h : z_lay X N σ o z_SCh z_RCh) : σ o 0 = ((o + 1 : Nat) : Int) := by have h := h.2.2 0 _ rfl; exact h
theorem ks_Sp_0 {X : z_X} {N : Nat} {σ : z_G} {o : Nat} (h : z_lay X N σ o z_SSp z_RSp) : z_sh X o = (0, 6) := by have h := h.1 0 _ rfl; exact h
theorem kl_Sp_0 {X : z_X} {N : Nat} {σ : z_G} {o : Nat} (h : z_lay X N σ o z_SSp z_RSp) : o < N := by have h := h.lt 0 rfl; exact h
theorem ks_Pi_0 {X : z_X} {N : Nat} {σ : z_G} {o : Nat} (h : z_lay X N σ o z_SPi z_RPi) : z_sh X o = (0, 3) := by have h := h.1 0 _ rfl; exact h
theorem kl_Pi_0 {X : z_X} {N : Nat} {σ : z_G} {o : Nat} (h : z_lay X N σ o z_SPi z_RPi) : o < N := by have h := h.lt 0 rfl; exact h
theorem ks_Pi_1 {X : z_X} {N : Nat} {σ : z_G} {o : Nat} (h : z_lay X N σ o z_SPi z_RPi) : z_sh X (o + 1) = (1, 12) := by have h := h.1 1 _ rfl; exact h
theorem kl_Pi_1 {X : z_X} {N : Nat} {σ : z_G} {o : Nat} (h : z_lay X N σ o z_SPi z_RPi) : o + 1 < N := by have h := h.lt 1 rfl; exact h
theorem ks_Pi_2 {X : z_X} {N : Nat} {σ : z_G} {o : Nat} (h : z_lay X N σ o z_SPi z_RPi) : z_sh X (o + 2) = (1, 12) := by have h := h.1 2 _ rfl; exact h
theorem kl_Pi_2 {X : z_X} {N : Nat} {σ : z_G} {o : Nat} (h : z_lay X N σ o z_SPi z_RPi) : o + 2 < N := by have h := h.lt 2 rfl; exact h
theorem ks_Pi_3 {X : z_X} {N : Nat} {σ : z_G} {o : Nat} (h : z_lay X N σ o z_SPi z_RPi) : z_sh X (o + 3) = (1, 12) := by have h := h.1 3 _ rfl; exact h
theorem kl_Pi_3 {X : z_X} {N : Nat} {σ : z_G} {o : Nat} (h : z_lay X N σ o z_SPi z_RPi) : o + 3 < N := by have h := h.lt 3 rfl; exact h
theorem kr_Pi_0_0 {X : z_X} {N : Nat} {σ : z_G} {o : Nat} (h : z_lay X N σ o z_SPi z_RPi) : σ o 0 = ((o + 1 : Nat) : Int) := by have h := h.2.2 0 _ rfl; exact h
theorem kr_Pi_0_1 {X : z_X} {N : Nat} {σ : z_G} {o : Nat} (h : z_lay X N σ o z_SPi z_RPi) : σ o 1 = ((o + 2 : Nat) : Int) := by have h := h.2.2 1 _ rfl; exact h
theorem kr_Pi_0_2 {X : z_X} {N : Nat} {σ : z_G} {o : Nat} (h : z_lay X N σ o z_SPi z_RPi) : σ o 2 = ((o + 3 : Nat) : Int) := by have h := h.2.2 2 _ rfl; exact h
theorem ks_Vi_0 {X : z_X} {N : Nat} {σ : z_G} {o : Nat} (h : z_lay X N σ o z_SVi z_RVi) : z_sh X o = (0, 9) := by have h := h.1 0 _ rfl; exact h
theorem kl_Vi_0 {X : z_X} {N : Nat} {σ : z_G} {o : Nat} (h : z_lay X N σ o z_SVi z_RVi) : o < N := by have h := h.lt 0 rfl; exact h
theorem ks_Vi_1 {X : z_X} {N : Nat} {σ : z_G} {o : Nat} (h : z_lay X N σ o z_SVi z_RVi) : z_sh X (o + 1) = (1, 200) := by have h := h.1 1 _ rfl; exact h
theorem kl_Vi_1 {X : z_X} {N : Nat} {σ : z_G} {o : Nat} (h : z_lay X N σ o z_SVi z_RVi) : o + 1 < N := by have h := h.lt 1 rfl; exact h
theorem kr_Vi_0_0 {X : z_X} {N : Nat} {σ : z_G} {o : Nat} (h : z_lay X N σ o z_SVi z_RVi) : σ o 0 = ((o + 1 : Nat) : Int) := by have h := h.2.2 0 _ rfl; exact h
theorem ks_Pg_0 {X : z_X} {N : Nat} {σ : z_G} {o : Nat} (h : z_lay X N σ o z_SPg z_RPg) : z_sh X o = (0, 4) := by have h := h.1 0 _ rfl; exact h
theorem kl_Pg_0 {X : z_X} {N : Nat} {σ : z_G} {o : Nat} (h : z_lay X N σ o z_SPg z_RPg) : o < N := by have h := h.lt 0 rfl; exact h
theorem ks_Pg_1 {X : z_X} {N : Nat} {σ : z_G} {o : Nat} (h : z_lay X N σ o z_SPg z_RPg) : z_sh X (o + 1) = (1, 60) := by have h := h.1 1 _ rfl; exact h
theorem kl_Pg_1 {X : z_X} {N : Nat} {σ : z_G} {o : Nat} (h : z_lay X N σ o z_SPg z_RPg) : o + 1 < N := by have h := h.lt 1 rfl; exact h
theorem ks_Pg_2 {X : z_X} {N : Nat} {σ : z_G} {o : Nat} (h : z_lay X N σ o z_SPg z_RPg) : z_sh X (o + 2) = (1, 60) := by have h := h.1 2 _ rfl; exact h
theorem kl_Pg_2 {X : z_X} {N : Nat} {σ : z_G} {o : Nat} (h : z_lay X N σ o z_SPg z_RPg) : o + 2 < N := by have h := h.lt 2 rfl; exact h
theorem ks_Pg_3 {X : z_X} {N : Nat} {σ : z_G} {o : Nat} (h : z_lay X N σ o z_SPg z_RPg) : z_sh X (o + 3) = (1, 60) := by have h := h.1 3 _ rfl; exact h
theorem kl_Pg_3 {X : z_X} {N : Nat} {σ : z_G} {o : Nat} (h : z_lay X N σ o z_SPg z_RPg) : o + 3 < N := by have h := h.lt 3 rfl; exact h
theorem ks_Pg_4 {X : z_X} {N : Nat} {σ : z_G} {o : Nat} (h : z_lay X N σ o z_SPg z_RPg) : z_sh X (o + 4) = (1, 60) := by have h := h.1 4 _ rfl; exact h
theorem kl_Pg_4 {X : z_X} {N : Nat} {σ : z_G} {o : Nat} (h : z_lay X N σ o z_SPg z_RPg) : o + 4 < N := by have h := h.lt 4 rfl; exact h
theorem ks_Pg_5 {X : z_X} {N : Nat} {σ : z_G} {o : Nat} (h : z_lay X N σ o z_SPg z_RPg) : z_sh X (o + 5) = (1, 60) := by have h := h.1 5 _ rfl; exact h
theorem kl_Pg_5 {X : z_X} {N : Nat} {σ : z_G} {o : Nat} (h : z_lay X N σ o z_SPg z_RPg) : o + 5 < N := by have h := h.lt 5 rfl; exact h
theorem kr_Pg_0_3 {X : z_X} {N : Nat} {σ : z_G} {o : Nat} (h : z_lay X N σ o z_SPg z_RPg) : σ o 3 = ((o + 1 : Nat) : Int) := by have h := h.2.2 0 _ rfl; exact h
theorem kr_Pg_0_4 {X : z_X} {N : Nat} {σ : z_G} {o : Nat} (h : z_lay X N σ o z_SPg z_RPg) : σ o 4 = ((o + 2 : Nat) : Int) := by have h := h.2.2 1 _ rfl; exact h
theorem kr_Pg_0_5 {X : z_X} {N : Nat} {σ : z_G} {o : Nat} (h : z_lay X N σ o z_SPg z_RPg) : σ o 5 = ((o + 3 : Nat) : Int) := by have h := h.2.2 2 _ rfl; exact h
theorem kr_Pg_0_6 {X : z_X} {N : Nat} {σ : z_G} {o : Nat} (h : z_lay X N σ o z_SPg z_RPg) : σ o 6 = ((o + 4 : Nat) : Int) := by have h := h.2.2 3 _ rfl; exact h
theorem kr_Pg_0_7 {X : z_X} {N : Nat} {σ : z_G} {o : Nat} (h : z_lay X N σ o z_SPg z_RPg) : σ o 7 = ((o + 5 : Nat) : Int) := by have h := h.2.2 4 _ rfl; exact h
theorem ks_Bd_0 {X : z_X} {N : Nat} {σ : z_G} {o : Nat} (h : z_lay X N σ o z_SBd z_RBd) : z_sh X o = (0, 0) := by have h := h.1 0 _ rfl; exact h
theorem kl_Bd_0 {X : z_X} {N : Nat} {σ : z_G} {o : Nat} (h : z_lay X N σ o z_SBd z_RBd) : o < N := by have h := h.lt 0 rfl; exact h
theorem ks_Bd_1 {X : z_X} {N : Nat} {σ : z_G} {o : Nat} (h : z_lay X N σ o z_SBd z_RBd) : z_sh X (o + 1) = (0, 6) := by have h := h.1 1 _ rfl; exact h
theorem kl_Bd_1 {X : z_X} {N : Nat} {σ : z_G} {o : Nat} (h : z_lay X N σ o z_SBd z_RBd) : o + 1 < N := by have h := h.lt 1 rfl; exact h
theorem ks_Bd_2 {X : z_X} {N : Nat} {σ : z_G} {o : Nat} (h : z_lay X N σ o z_SBd z_RBd) : z_sh X (o + 2) = (0, 3) := by have h := h.1 2 _ rfl; exact h
theorem kl_Bd_2 {X : z_X} {N : Nat} {σ : z_G} {o : Nat} (h : z_lay X N σ o z_SBd z_RBd) : o + 2 < N := by have h := h.lt 2 rfl; exact h
theorem ks_Bd_3 {X : z_X} {N : Nat} {σ : z_G} {o : Nat} (h : z_lay X N σ o z_SBd z_RBd) : z_sh X (o + 3) = (1, 12) := by have h := h.1 3 _ rfl; exact h
theorem kl_Bd_3 {X : z_X} {N : Nat} {σ : z_G} {o : Nat} (h : z_lay X N σ o z_SBd z_RBd) : o + 3 < N := by have h := h.lt 3 rfl; exact h
theorem ks_Bd_4 {X : z_X} {N : Nat} {σ : z_G} {o : Nat} (h : z_lay X N σ o z_SBd z_RBd) : z_sh X (o + 4) = (1, 12) := by have h := h.1 4 _ rfl; exact h
theorem kl_Bd_4 {X : z_X} {N : Nat} {σ : z_G} {o : Nat} (h : z_lay X N σ o z_SBd z_RBd) : o + 4 < N := by have h := h.lt 4 rfl; exact h
theorem ks_Bd_5 {X : z_X} {N : Nat} {σ : z_G} {o : Nat} (h : z_lay X N σ o z_SBd z_RBd) : z_sh X (o + 5) = (1, 12) := by have h := h.1 5 _ rfl; exact h
theorem kl_Bd_5 {X : z_X} {N : Nat} {σ : z_G} {o : Nat} (h : z_lay X N σ o z_SBd z_RBd) : o + 5 < N := by have h := h.lt 5 rfl; exact h
theorem ks_Bd_6 {X : z_X} {N : Nat} {σ : z_G} {o : Nat} (h : z_lay X N σ o z_SBd z_RBd) : z_sh X (o + 6) = (0, 9) := by have h := h.1 6 _ rfl; exact h
theorem kl_Bd_6 {X : z_X} {N : Nat} {σ : z_G} {o : Nat} (h : z_lay X N σ o z_SBd z_RBd) : o + 6 < N := by have h := h.lt 6 rfl; exact h
theorem ks_Bd_7 {X : z_X} {N : Nat} {σ : z_G} {o : Nat} (h : z_lay X N σ o z_SBd z_RBd) : z_sh X (o + 7) = (1, 200) := by have h := h.1 7 _ rfl; exact h
theorem kl_Bd_7 {X : z_X} {N : Nat} {σ : z_G} {o : Nat} (h : z_lay X N σ o z_SBd z_RBd) : o + 7 < N := by have h := h.lt 7 rfl; exact h
theorem ks_Bd_8 {X : z_X} {N : Nat} {σ : z_G} {o : Nat} (h : z_lay X N σ o z_SBd z_RBd) : z_sh X (o + 8) = (0, 4) := by have h := h.1 8 _ rfl; exact h
theorem kl_Bd_8 {X : z_X} {N : Nat} {σ : z_G} {o : Nat} (h : z_lay X N σ o z_SBd z_RBd) : o + 8 < N := by have h := h.lt 8 rfl; exact h
theorem ks_Bd_9 {X : z_X} {N : Nat} {σ : z_G} {o : Nat} (h : z_lay X N σ o z_SBd z_RBd) : z_sh X (o + 9) = (1, 60) := by have h := h.1 9 _ rfl; exact h
theorem kl_Bd_9 {X : z_X} {N : Nat} {σ : z_G} {o : Nat} (h : z_lay X N σ o z_SBd z_RBd) : o + 9 < N := by have h := h.lt 9 rfl; exact h
theorem ks_Bd_10 {X : z_X} {N : Nat} {σ : z_G} {o : Nat} (h : z_lay X N σ o z_SBd z_RBd) : z_sh X (o + 10) = (1, 60) := by have h := h.1 10 _ rfl; exact h
theorem kl_Bd_10 {X : z_X} {N : Nat} {σ : z_G} {o : Nat} (h : z_lay X N σ o z_SBd z_RBd) : o + 10 < N := by have h := h.lt 10 rfl; exact h
theorem ks_Bd_11 {X : z_X} {N : Nat} {σ : z_G} {o : Nat} (h : z_lay X N σ o z_SBd z_RBd) : z_sh X (o + 11) = (1, 60) := by have h := h.1 11 _ rfl; exact h
theorem kl_Bd_11 {X : z_X} {N : Nat} {σ : z_G} {o : Nat} (h : z_lay X N σ o z_SBd z_RBd) : o + 11 < N := by have h := h.lt 11 rfl; exact h
theorem ks_Bd_12 {X : z_X} {N : Nat} {σ : z_G} {o : Nat} (h : z_lay X N σ o z_SBd z_RBd) : z_sh X (o + 12) = (1, 60) := by have h := h.1 12 _ rfl; exact h
theorem kl_Bd_12 {X : z_X} {N : Nat} {σ : z_G} {o : Nat} (h : z_lay X N σ o z_SBd z_RBd) : o + 12 < N := by have h := h.lt 12 rfl; exact h
theorem ks_Bd_13 {X : z_X} {N : Nat} {σ : z_G} {o : Nat} (h : z_lay X N σ o z_SBd z_RBd) : z_sh X (o + 13) = (1, 60) := by have h := h.1 13 _ rfl; exact h
theorem kl_Bd_13 {X : z_X} {N : Nat} {σ : z_G} {o : Nat} (h : z_lay X N σ o z_SBd z_RBd) : o + 13 < N := by have h := h.lt 13 rfl; exact h
theorem kr_Bd_0_2 {X : z_X} {N : Nat} {σ : z_G} {o : Nat} (h : z_lay X N σ o z_SBd z_RBd) : σ o 2 = ((o + 1 : Nat) : Int) := by have h := h.2.2 0 _ rfl; exact h
theorem kr_Bd_0_3 {X : z_X} {N : Nat} {σ : z_G} {o : Nat} (h : z_lay X N σ o z_SBd z_RBd) : σ o 3 = ((o + 2 : Nat) : Int) := by have h := h.2.2 1 _ rfl; exact h
theorem kr_Bd_0_4 {X : z_X} {N : Nat} {σ : z_G} {o : Nat} (h : z_lay X N σ o z_SBd z_RBd) : σ o 4 = ((o + 6 : Nat) : Int) := by have h := h.2.2 2 _ rfl; exact h
theorem kr_Bd_0_5 {X : z_X} {N : Nat} {σ : z_G} {o : Nat} (h : z_lay X N σ o z_SBd z_RBd) : σ o 5 = ((o + 8 : Nat) : Int) := by have h := h.2.2 3 _ rfl; exact h
theorem kr_Bd_2_0 {X : z_X} {N : Nat} {σ : z_G} {o : Nat} (h : z_lay X N σ o z_SBd z_RBd) : σ (o + 2) 0 = ((o + 3 : Nat) : Int) := by have h := h.2.2 4 _ rfl; exact h
theorem kr_Bd_2_1 {X : z_X} {N : Nat} {σ : z_G} {o : Nat} (h : z_lay X N σ o z_SBd z_RBd) : σ (o + 2) 1 = ((o + 4 : Nat) : Int) := by have h := h.2.2 5 _ rfl; exact h
theorem kr_Bd_2_2 {X : z_X} {N : Nat} {σ : z_G} {o : Nat} (h : z_lay X N σ o z_SBd z_RBd) : σ (o + 2) 2 = ((o + 5 : Nat) : Int) := by have h := h.2.2 6 _ rfl; exact h
theorem kr_Bd_6_0 {X : z_X} {N : Nat} {σ : z_G} {o : Nat} (h : z_lay X N σ o z_SBd z_RBd) : σ (o + 6) 0 = ((o + 7 : Nat) : Int) := by have h := h.2.2 7 _ rfl; exact h
theorem kr_Bd_8_3 {X : z_X} {N : Nat} {σ : z_G} {o : Nat} (h : z_lay X N σ o z_SBd z_RBd) : σ (o + 8) 3 = ((o + 9 : Nat) : Int) := by have h := h.2.2 8 _ rfl; exact h
theorem kr_Bd_8_4 {X : z_X} {N : Nat} {σ : z_G} {o : Nat} (h : z_lay X N σ o z_SBd z_RBd) : σ (o + 8) 4 = ((o + 10 : Nat) : Int) := by have h := h.2.2 9 _ rfl; exact h
theorem kr_Bd_8_5 {X : z_X} {N : Nat} {σ : z_G} {o : Nat} (h : z_lay X N σ o z_SBd z_RBd) : σ (o + 8) 5 = ((o + 11 : Nat) : Int) := by have h := h.2.2 10 _ rfl; exact h
theorem kr_Bd_8_6 {X : z_X} {N : Nat} {σ : z_G} {o : Nat} (h : z_lay X N σ o z_SBd z_RBd) : σ (o + 8) 6 = ((o + 12 : Nat) : Int) := by have h := h.2.2 11 _ rfl; exact h
theorem kr_Bd_8_7 {X : z_X} {N : Nat} {σ : z_G} {o : Nat} (h : z_lay X N σ o z_SBd z_RBd) : σ (o + 8) 7 = ((o + 13 : Nat) : Int) := by have h := h.2.2 12 _ rfl; exact h
theorem ks_Wk_0 {X : z_X} {N : Nat} {σ : z_G} {o : Nat} (h : z_lay X N σ o z_SWk z_RWk) : z_sh X o = (0, 10) := by have h := h.1 0 _ rfl; exact h
theorem kl_Wk_0 {X : z_X} {N : Nat} {σ : z_G} {o : Nat} (h : z_lay X N σ o z_SWk z_RWk) : o < N := by have h := h.lt 0 rfl; exact h
theorem ks_Wk_1 {X : z_X} {N : Nat} {σ : z_G} {o : Nat} (h : z_lay X N σ o z_SWk z_RWk) : z_sh X (o + 1) = (1, 60) := by have h := h.1 1 _ rfl; exact h
theorem kl_Wk_1 {X : z_X} {N : Nat} {σ : z_G} {o : Nat} (h : z_lay X N σ o z_SWk z_RWk) : o + 1 < N := by have h := h.lt 1 rfl; exact h
theorem kr_Wk_0_7 {X : z_X} {N : Nat} {σ : z_G} {o : Nat} (h : z_lay X N σ o z_SWk z_RWk) : σ o 7 = ((o + 1 : Nat) : Int) := by have h := h.2.2 0 _ rfl; exact h
theorem ks_Tr_0 {X : z_X} {N : Nat} {σ : z_G} {o : Nat} (h : z_lay X N σ o z_STr z_RTr) : z_sh X o = (0, 8) := by have h := h.1 0 _ rfl; exact h
theorem kl_Tr_0 {X : z_X} {N : Nat} {σ : z_G} {o : Nat} (h : z_lay X N σ o z_STr z_RTr) : o < N := by have h := h.lt 0 rfl; exact h
theorem ks_Tr_1 {X : z_X} {N : Nat} {σ : z_G} {o : Nat} (h : z_lay X N σ o z_STr z_RTr) : z_sh X (o + 1) = (5, 4) := by have h := h.1 1 _ rfl; exact h
theorem kl_Tr_1 {X : z_X} {N : Nat} {σ : z_G} {o : Nat} (h : z_lay X N σ o z_STr z_RTr) : o + 1 < N := by have h := h.lt 1 rfl; exact h
theorem ks_Tr_2 {X : z_X} {N : Nat} {σ : z_G} {o : Nat} (h : z_lay X N σ o z_STr z_RTr) : z_sh X (o + 2) = (2, 60) := by have h := h.1 2 _ rfl; exact h
theorem kl_Tr_2 {X : z_X} {N : Nat} {σ : z_G} {o : Nat} (h : z_lay X N σ o z_STr z_RTr) : o + 2 < N := by have h := h.lt 2 rfl; exact h
theorem ks_Tr_3 {X : z_X} {N : Nat} {σ : z_G} {o : Nat} (h : z_lay X N σ o z_STr z_RTr) : z_sh X (o + 3) = (2, 60) := by have h := h.1 3 _ rfl; exact h
theorem kl_Tr_3 {X : z_X} {N : Nat} {σ : z_G} {o : Nat} (h : z_lay X N σ o z_STr z_RTr) : o + 3 < N := by have h := h.lt 3 rfl; exact h
theorem ks_Tr_4 {X : z_X} {N : Nat} {σ : z_G} {o : Nat} (h : z_lay X N σ o z_STr z_RTr) : z_sh X (o + 4) = (2, 60) := by have h := h.1 4 _ rfl; exact h
theorem kl_Tr_4 {X : z_X} {N : Nat} {σ : z_G} {o : Nat} (h : z_lay X N σ o z_STr z_RTr) : o + 4 < N := by have h := h.lt 4 rfl; exact h
theorem ks_Tr_5 {X : z_X} {N : Nat} {σ : z_G} {o : Nat} (h : z_lay X N σ o z_STr z_RTr) : z_sh X (o + 5) = (2, 60) := by have h := h.1 5 _ rfl; exact h
theorem kl_Tr_5 {X : z_X} {N : Nat} {σ : z_G} {o : Nat} (h : z_lay X N σ o z_STr z_RTr) : o + 5 < N := by have h := h.lt 5 rfl; exact h
theorem ks_Tr_6 {X : z_X} {N : Nat} {σ : z_G} {o : Nat} (h : z_lay X N σ o z_STr z_RTr) : z_sh X (o + 6) = (1, 4) := by have h := h.1 6 _ rfl; exact h
theorem kl_Tr_6 {X : z_X} {N : Nat} {σ : z_G} {o : Nat} (h : z_lay X N σ o z_STr z_RTr) : o + 6 < N := by have h := h.lt 6 rfl; exact h
theorem ks_Tr_7 {X : z_X} {N : Nat} {σ : z_G} {o : Nat} (h : z_lay X N σ o z_STr z_RTr) : z_sh X (o + 7) = (1, 4) := by have h := h.1 7 _ rfl; exact h
theorem kl_Tr_7 {X : z_X} {N : Nat} {σ : z_G} {o : Nat} (h : z_lay X N σ o z_STr z_RTr) : o + 7 < N := by have h := h.lt 7 rfl; exact h
theorem kr_Tr_0_0 {X : z_X} {N : Nat} {σ : z_G} {o : Nat} (h : z_lay X N σ o z_STr z_RTr) : σ o 0 = ((o + 1 : Nat) : Int) := by have h := h.2.2 0 _ rfl; exact h
theorem kr_Tr_0_1 {X : z_X} {N : Nat} {σ : z_G} {o : Nat} (h : z_lay X N σ o z_STr z_RTr) : σ o 1 = ((o + 6 : Nat) : Int) := by have h := h.2.2 1 _ rfl; exact h
theorem kr_Tr_0_2 {X : z_X} {N : Nat} {σ : z_G} {o : Nat} (h : z_lay X N σ o z_STr z_RTr) : σ o 2 = ((o + 7 : Nat) : Int) := by have h := h.2.2 2 _ rfl; exact h
theorem kr_Tr_1_0 {X : z_X} {N : Nat} {σ : z_G} {o : Nat} (h : z_lay X N σ o z_STr z_RTr) : σ (o + 1) 0 = ((o + 2 : Nat) : Int) := by have h := h.2.2 3 _ rfl; exact h
theorem kr_Tr_1_1 {X : z_X} {N : Nat} {σ : z_G} {o : Nat} (h : z_lay X N σ o z_STr z_RTr) : σ (o + 1) 1 = ((o + 3 : Nat) : Int) := by have h := h.2.2 4 _ rfl; exact h
theorem kr_Tr_1_2 {X : z_X} {N : Nat} {σ : z_G} {o : Nat} (h : z_lay X N σ o z_STr z_RTr) : σ (o + 1) 2 = ((o + 4 : Nat) : Int) := by have h := h.2.2 5 _ rfl; exact h
theorem kr_Tr_1_3 {X : z_X} {N : Nat} {σ : z_G} {o : Nat} (h : z_lay X N σ o z_STr z_RTr) : σ (o + 1) 3 = ((o + 5 : Nat) : Int) := by have h := h.2.2 6 _ rfl; exact h
theorem ks_Ta_0 {X : z_X} {N : Nat} {σ : z_G} {o : Nat} (h : z_lay X N σ o z_STa z_RTa) : z_sh X o = (0, 7) := by have h := h.1 0 _ rfl; exact h
theorem kl_Ta_0 {X : z_X} {N : Nat} {σ : z_G} {o : Nat} (h : z_lay X N σ o z_STa z_RTa) : o < N := by have h := h.lt 0 rfl; exact h
theorem ks_Ta_1 {X : z_X} {N : Nat} {σ : z_G} {o : Nat} (h : z_lay X N σ o z_STa z_RTa) : z_sh X (o + 1) = (3, 900) := by have h := h.1 1 _ rfl; exact h
theorem kl_Ta_1 {X : z_X} {N : Nat} {σ : z_G} {o : Nat} (h : z_lay X N σ o z_STa z_RTa) : o + 1 < N := by have h := h.lt 1 rfl; exact h
theorem kr_Ta_0_0 {X : z_X} {N : Nat} {σ : z_G} {o : Nat} (h : z_lay X N σ o z_STa z_RTa) : σ o 0 = ((o + 1 : Nat) : Int) := by have h := h.2.2 0 _ rfl; exact h
theorem ks_Pa_0 {X : z_X} {N : Nat} {σ : z_G} {o : Nat} (h : z_lay X N σ o z_SPa z_RPa) : z_sh X o = (0, 2) := by have h := h.1 0 _ rfl; exact h
theorem kl_Pa_0 {X : z_X} {N : Nat} {σ : z_G} {o : Nat} (h : z_lay X N σ o z_SPa z_RPa) : o < N := by have h := h.lt 0 rfl; exact h
theorem ks_Pa_1 {X : z_X} {N : Nat} {σ : z_G} {o : Nat} (h : z_lay X N σ o z_SPa z_RPa) : z_sh X (o + 1) = (0, 7) := by have h := h.1 1 _ rfl; exact h
theorem kl_Pa_1 {X : z_X} {N : Nat} {σ : z_G} {o : Nat} (h : z_lay X N σ o z_SPa z_RPa) : o + 1 < N := by have h := h.lt 1 rfl; exact h
theorem ks_Pa_2 {X : z_X} {N : Nat} {σ : z_G} {o : Nat} (h : z_lay X N σ o z_SPa z_RPa) : z_sh X (o + 2) = (3, 900) := by have h := h.1 2 _ rfl; exact h
theorem kl_Pa_2 {X : z_X} {N : Nat} {σ : z_G} {o : Nat} (h : z_lay X N σ o z_SPa z_RPa) : o + 2 < N := by have h := h.lt 2 rfl; exact h
theorem ks_Pa_3 {X : z_X} {N : Nat} {σ : z_G} {o : Nat} (h : z_lay X N σ o z_SPa z_RPa) : z_sh X (o + 3) = (0, 1) := by have h := h.1 3 _ rfl; exact h
theorem kl_Pa_3 {X : z_X} {N : Nat} {σ : z_G} {o : Nat} (h : z_lay X N σ o z_SPa z_RPa) : o + 3 < N := by have h := h.lt 3 rfl; exact h
theorem ks_Pa_4 {X : z_X} {N : Nat} {σ : z_G} {o : Nat} (h : z_lay X N σ o z_SPa z_RPa) : z_sh X (o + 4) = (1, 32) := by have h := h.1 4 _ rfl; exact h
theorem kl_Pa_4 {X : z_X} {N : Nat} {σ : z_G} {o : Nat} (h : z_lay X N σ o z_SPa z_RPa) : o + 4 < N := by have h := h.lt 4 rfl; exact h
theorem ks_Pa_5 {X : z_X} {N : Nat} {σ : z_G} {o : Nat} (h : z_lay X N σ o z_SPa z_RPa) : z_sh X (o + 5) = (1, 3) := by have h := h.1 5 _ rfl; exact h
theorem kl_Pa_5 {X : z_X} {N : Nat} {σ : z_G} {o : Nat} (h : z_lay X N σ o z_SPa z_RPa) : o + 5 < N := by have h := h.lt 5 rfl; exact h
theorem kr_Pa_0_0 {X : z_X} {N : Nat} {σ : z_G} {o : Nat} (h : z_lay X N σ o z_SPa z_RPa) : σ o 0 = ((o + 1 : Nat) : Int) := by have h := h.2.2 0 _ rfl; exact h
theorem kr_Pa_0_1 {X : z_X} {N : Nat} {σ : z_G} {o : Nat} (h : z_lay X N σ o z_SPa z_RPa) : σ o 1 = ((o + 3 : Nat) : Int) := by have h := h.2.2 1 _ rfl; exact h
theorem kr_Pa_0_5 {X : z_X} {N : Nat} {σ : z_G} {o : Nat} (h : z_lay X N σ o z_SPa z_RPa) : σ o 5 = ((o + 5 : Nat) : Int) := by have h := h.2.2 2 _ rfl; exact h
theorem kr_Pa_1_0 {X : z_X} {N : Nat} {σ : z_G} {o : Nat} (h : z_lay X N σ o z_SPa z_RPa) : σ (o + 1) 0 = ((o + 2 : Nat) : Int) := by have h := h.2.2 3 _ rfl; exact h
theorem kr_Pa_3_0 {X : z_X} {N : Nat} {σ : z_G} {o : Nat} (h : z_lay X N σ o z_SPa z_RPa) : σ (o + 3) 0 = ((o + 4 : Nat) : Int) := by have h := h.2.2 4 _ rfl; exact h
theorem ks_Rw_0 {X : z_X} {N : Nat} {σ : z_G} {o : Nat} (h : z_lay X N σ o z_SRw z_RRw) : z_sh X o = (0, 5) := by have h := h.1 0 _ rfl; exact h
theorem kl_Rw_0 {X : z_X} {N : Nat} {σ : z_G} {o : Nat} (h : z_lay X N σ o z_SRw z_RRw) : o < N := by have h := h.lt 0 rfl; exact h
theorem ks_Rw_1 {X : z_X} {N : Nat} {σ : z_G} {o : Nat} (h : z_lay X N σ o z_SRw z_RRw) : z_sh X (o + 1) = (1, 201) := by have h := h.1 1 _ rfl; exact h
theorem kl_Rw_1 {X : z_X} {N : Nat} {σ : z_G} {o : Nat} (h : z_lay X N σ o z_SRw z_RRw) : o + 1 < N := by have h := h.lt 1 rfl; exact h
theorem ks_Rw_2 {X : z_X} {N : Nat} {σ : z_G} {o : Nat} (h : z_lay X N σ o z_SRw z_RRw) : z_sh X (o + 2) = (1, 201) := by have h := h.1 2 _ rfl; exact h
theorem kl_Rw_2 {X : z_X} {N : Nat} {σ : z_G} {o : Nat} (h : z_lay X N σ o z_SRw z_RRw) : o + 2 < N := by have h := h.lt 2 rfl; exact h
theorem kr_Rw_0_0 {X : z_X} {N : Nat} {σ : z_G} {o : Nat} (h : z_lay X N σ o z_SRw z_RRw) : σ o 0 = ((o + 1 : Nat) : Int) := by have h := h.2.2 0 _ rfl; exact h
theorem kr_Rw_0_1 {X : z_X} {N : Nat} {σ : z_G} {o : Nat} (h : z_lay X N σ o z_SRw z_RRw) : σ o 1 = ((o + 2 : Nat) : Int) := by have h := h.2.2 1 _ rfl; exact h
theorem ks_F_0 {X : z_X} {N : Nat} {σ : z_G} (h : z_lay X N σ 0 z_SF z_RF) : z_sh X 0 = (0, 11) := by have h := h.1 0 _ rfl; rw [Nat.zero_add] at h; exact h
theorem kl_F_0 {X : z_X} {N : Nat} {σ : z_G} (h : z_lay X N σ 0 z_SF z_RF) : 0 < N := by have h := h.lt 0 rfl; rw [Nat.zero_add] at h; exact h
theorem ks_F_1 {X : z_X} {N : Nat} {σ : z_G} (h : z_lay X N σ 0 z_SF z_RF) : z_sh X 1 = (0, 8) := by have h := h.1 1 _ rfl; rw [Nat.zero_add] at h; exact h
theorem kl_F_1 {X : z_X} {N : Nat} {σ : z_G} (h : z_lay X N σ 0 z_SF z_RF) : 1 < N := by have h := h.lt 1 rfl; rw [Nat.zero_add] at h; exact h
theorem ks_F_2 {X : z_X} {N : Nat} {σ : z_G} (h : z_lay X N σ 0 z_SF z_RF) : z_sh X 2 = (5, 4) := by have h := h.1 2 _ rfl; rw [Nat.zero_add] at h; exact h
theorem kl_F_2 {X : z_X} {N : Nat} {σ : z_G} (h : z_lay X N σ 0 z_SF z_RF) : 2 < N := by have h := h.lt 2 rfl; rw [Nat.zero_add] at h; exact h
theorem ks_F_3 {X : z_X} {N : Nat} {σ : z_G} (h : z_lay X N σ 0 z_SF z_RF) : z_sh X 3 = (2, 60) := by have h := h.1 3 _ rfl; rw [Nat.zero_add] at h; exact h
theorem kl_F_3 {X : z_X} {N : Nat} {σ : z_G} (h : z_lay X N σ 0 z_SF z_RF) : 3 < N := by have h := h.lt 3 rfl; rw [Nat.zero_add] at h; exact h
theorem ks_F_4 {X : z_X} {N : Nat} {σ : z_G} (h : z_lay X N σ 0 z_SF z_RF) : z_sh X 4 = (2, 60) := by have h := h.1 4 _ rfl; rw [Nat.zero_add] at h; exact h
theorem kl_F_4 {X : z_X} {N : Nat} {σ : z_G} (h : z_lay X N σ 0 z_SF z_RF) : 4 < N := by have h := h.lt 4 rfl; rw [Nat.zero_add] at h; exact h
theorem ks_F_5 {X : z_X} {N : Nat} {σ : z_G} (h : z_lay X N σ 0 z_SF z_RF) : z_sh X 5 = (2, 60) := by have h := h.1 5 _ rfl; rw [Nat.zero_add] at h; exact h
theorem kl_F_5 {X : z_X} {N : Nat} {σ : z_G} (h : z_lay X N σ 0 z_SF z_RF) : 5 < N := by have h := h.lt 5 rfl; rw [Nat.zero_add] at h; exact h
theorem ks_F_6 {X : z_X} {N : Nat} {σ : z_G} (h : z_lay X N σ 0 z_SF z_RF) : z_sh X 6 = (2, 60) := by have h := h.1 6 _ rfl; rw [Nat.zero_add] at h; exact h
theorem kl_F_6 {X : z_X} {N : Nat} {σ : z_G} (h : z_lay X N σ 0 z_SF z_RF) : 6 < N := by have h := h.lt 6 rfl; rw [Nat.zero_add] at h; exact h
theorem ks_F_7 {X : z_X} {N : Nat} {σ : z_G} (h : z_lay X N σ 0 z_SF z_RF) : z_sh X 7 = (1, 4) := by have h := h.1 7 _ rfl; rw [Nat.zero_add] at h; exact h
theorem kl_F_7 {X : z_X} {N : Nat} {σ : z_G} (h : z_lay X N σ 0 z_SF z_RF) : 7 < N := by have h := h.lt 7 rfl; rw [Nat.zero_add] at h; exact h
theorem ks_F_8 {X : z_X} {N : Nat} {σ : z_G} (h : z_lay X N σ 0 z_SF z_RF) : z_sh X 8 = (1, 4) := by have h := h.1 8 _ rfl; rw [Nat.zero_add] at h; exact h
theorem kl_F_8 {X : z_X} {N : Nat} {σ : z_G} (h : z_lay X N σ 0 z_SF z_RF) : 8 < N := by have h := h.lt 8 rfl; rw [Nat.zero_add] at h; exact h
theorem ks_F_9 {X : z_X} {N : Nat} {σ : z_G} (h : z_lay X N σ 0 z_SF z_RF) : z_sh X 9 = (0, 2) := by have h := h.1 9 _ rfl; rw [Nat.zero_add] at h; exact h
theorem kl_F_9 {X : z_X} {N : Nat} {σ : z_G} (h : z_lay X N σ 0 z_SF z_RF) : 9 < N := by have h := h.lt 9 rfl; rw [Nat.zero_add] at h; exact h
theorem ks_F_10 {X : z_X} {N : Nat} {σ : z_G} (h : z_lay X N σ 0 z_SF z_RF) : z_sh X 10 = (0, 7) := by have h := h.1 10 _ rfl; rw [Nat.zero_add] at h; exact h
theorem kl_F_10 {X : z_X} {N : Nat} {σ : z_G} (h : z_lay X N σ 0 z_SF z_RF) : 10 < N := by have h := h.lt 10 rfl; rw [Nat.zero_add] at h; exact h
theorem ks_F_11 {X : z_X} {N : Nat} {σ : z_G} (h : z_lay X N σ 0 z_SF z_RF) : z_sh X 11 = (3, 900) := by have h := h.1 11 _ rfl; rw [Nat.zero_add] at h; exact h
theorem kl_F_11 {X : z_X} {N : Nat} {σ : z_G} (h : z_lay X N σ 0 z_SF z_RF) : 11 < N := by have h := h.lt 11 rfl; rw [Nat.zero_add] at h; exact h
theorem ks_F_12 {X : z_X} {N : Nat} {σ : z_G} (h : z_lay X N σ 0 z_SF z_RF) : z_sh X 12 = (0, 1) := by have h := h.1 12 _ rfl; rw [Nat.zero_add] at h; exact h
theorem kl_F_12 {X : z_X} {N : Nat} {σ : z_G} (h : z_lay X N σ 0 z_SF z_RF) : 12 < N := by have h := h.lt 12 rfl; rw [Nat.zero_add] at h; exact h
theorem ks_F_13 {X : z_X} {N : Nat} {σ : z_G} (h : z_lay X N σ 0 z_SF z_RF) : z_sh X 13 = (1, 32) := by have h := h.1 13 _ rfl; rw [Nat.zero_add] at h; exact h
theorem kl_F_13 {X : z_X} {N : Nat} {σ : z_G} (h : z_lay X N σ 0 z_SF z_RF) : 13 < N := by have h := h.lt 13 rfl; rw [Nat.zero_add] at h; exact h
theorem ks_F_14 {X : z_X} {N : Nat} {σ : z_G} (h : z_lay X N σ 0 z_SF z_RF) : z_sh X 14 = (1, 3) := by have h := h.1 14 _ rfl; rw [Nat.zero_add] at h; exact h
theorem kl_F_14 {X : z_X} {N : Nat} {σ : z_G} (h : z_lay X N σ 0 z_SF z_RF) : 14 < N := by have h := h.lt 14 rfl; rw [Nat.zero_add] at h; exact h
theorem ks_F_15 {X : z_X} {N : Nat} {σ : z_G} (h : z_lay X N σ 0 z_SF z_RF) : z_sh X 15 = (0, 5) := by have h := h.1 15 _ rfl; rw [Nat.zero_add] at h; exact h
theorem kl_F_15 {X : z_X} {N : Nat} {σ : z_G} (h : z_lay X N σ 0 z_SF z_RF) : 15 < N := by have h := h.lt 15 rfl; rw [Nat.zero_add] at h; exact h
theorem ks_F_16 {X : z_X} {N : Nat} {σ : z_G} (h : z_lay X N σ 0 z_SF z_RF) : z_sh X 16 = (1, 201) := by have h := h.1 16 _ rfl; rw [Nat.zero_add] at h; exact h
theorem kl_F_16 {X : z_X} {N : Nat} {σ : z_G} (h : z_lay X N σ 0 z_SF z_RF) : 16 < N := by have h := h.lt 16 rfl; rw [Nat.zero_add] at h; exact h
theorem ks_F_17 {X : z_X} {N : Nat} {σ : z_G} (h : z_lay X N σ 0 z_SF z_RF) : z_sh X 17 = (1, 201) := by have h := h.1 17 _ rfl; rw [Nat.zero_add] at h; exact h
theorem kl_F_17 {X : z_X} {N : Nat} {σ : z_G} (h : z_lay X N σ 0 z_SF z_RF) : 17 < N := by have h := h.lt 17 rfl; rw [Nat.zero_add] at h; exact h
theorem ks_F_18 {X : z_X} {N : Nat} {σ : z_G} (h : z_lay X N σ 0 z_SF z_RF) : z_sh X 18 = (0, 1) := by have h := h.1 18 _ rfl; rw [Nat.zero_add] at h; exact h
theorem kl_F_18 {X : z_X} {N : Nat} {σ : z_G} (h : z_lay X N σ 0 z_SF z_RF) : 18 < N := by have h := h.lt 18 rfl; rw [Nat.zero_add] at h; exact h
theorem ks_F_19 {X : z_X} {N : Nat} {σ : z_G} (h : z_lay X N σ 0 z_SF z_RF) : z_sh X 19 = (1, 32) := by have h := h.1 19 _ rfl; rw [Nat.zero_add] at h; exact h
theorem kl_F_19 {X : z_X} {N : Nat} {σ : z_G} (h : z_lay X N σ 0 z_SF z_RF) : 19 < N := by have h := h.lt 19 rfl; rw [Nat.zero_add] at h; exact h
theorem ks_F_20 {X : z_X} {N : Nat} {σ : z_G} (h : z_lay X N σ 0 z_SF z_RF) : z_sh X 20 = (0, 1) := by have h := h.1 20 _ rfl; rw [Nat.zero_add] at h; exact h
theorem kl_F_20 {X : z_X} {N : Nat} {σ : z_G} (h : z_lay X N σ 0 z_SF z_RF) : 20 < N := by have h := h.lt 20 rfl; rw [Nat.zero_add] at h; exact h
theorem ks_F_21 {X : z_X} {N : Nat} {σ : z_G} (h : z_lay X N σ 0 z_SF z_RF) : z_sh X 21 = (1, 32) := by have h := h.1 21 _ rfl; rw [Nat.zero_add] at h; exact h
theorem kl_F_21 {X : z_X} {N : Nat} {σ : z_G} (h : z_lay X N σ 0 z_SF z_RF) : 21 < N := by have h := h.lt 21 rfl; rw [Nat.zero_add] at h; exact h
theorem ks_F_22 {X : z_X} {N : Nat} {σ : z_G} (h : z_lay X N σ 0 z_SF z_RF) : z_sh X 22 = (0, 6) := by have h := h.1 22 _ rfl; rw [Nat.zero_add] at h; exact h
theorem kl_F_22 {X : z_X} {N : Nat} {σ : z_G} (h : z_lay X N σ 0 z_SF z_RF) : 22 < N := by have h := h.lt 22 rfl; rw [Nat.zero_add] at h; exact h
theorem ks_F_23 {X : z_X} {N : Nat} {σ : z_G} (h : z_lay X N σ 0 z_SF z_RF) : z_sh X 23 = (0, 0) := by have h := h.1 23 _ rfl; rw [Nat.zero_add] at h; exact h
theorem kl_F_23 {X : z_X} {N : Nat} {σ : z_G} (h : z_lay X N σ 0 z_SF z_RF) : 23 < N := by have h := h.lt 23 rfl; rw [Nat.zero_add] at h; exact h
theorem ks_F_24 {X : z_X} {N : Nat} {σ : z_G} (h : z_lay X N σ 0 z_SF z_RF) : z_sh X 24 = (0, 6) := by have h := h.1 24 _ rfl; rw [Nat.zero_add] at h; exact h
theorem kl_F_24 {X : z_X} {N : Nat} {σ : z_G} (h : z_lay X N σ 0 z_SF z_RF) : 24 < N := by have h := h.lt 24 rfl; rw [Nat.zero_add] at h; exact h
theorem ks_F_25 {X : z_X} {N : Nat} {σ : z_G} (h : z_lay X N σ 0 z_SF z_RF) : z_sh X 25 = (0, 3) := by have h := h.1 25 _ rfl; rw [Nat.zero_add] at h; exact h
theorem kl_F_25 {X : z_X} {N : Nat} {σ : z_G} (h : z_lay X N σ 0 z_SF z_RF) : 25 < N := by have h := h.lt 25 rfl; rw [Nat.zero_add] at h; exact h
theorem ks_F_26 {X : z_X} {N : Nat} {σ : z_G} (h : z_lay X N σ 0 z_SF z_RF) : z_sh X 26 = (1, 12) := by have h := h.1 26 _ rfl; rw [Nat.zero_add] at h; exact h
theorem kl_F_26 {X : z_X} {N : Nat} {σ : z_G} (h : z_lay X N σ 0 z_SF z_RF) : 26 < N := by have h := h.lt 26 rfl; rw [Nat.zero_add] at h; exact h
theorem ks_F_27 {X : z_X} {N : Nat} {σ : z_G} (h : z_lay X N σ 0 z_SF z_RF) : z_sh X 27 = (1, 12) := by have h := h.1 27 _ rfl; rw [Nat.zero_add] at h; exact h
theorem kl_F_27 {X : z_X} {N : Nat} {σ : z_G} (h : z_lay X N σ 0 z_SF z_RF) : 27 < N := by have h := h.lt 27 rfl; rw [Nat.zero_add] at h; exact h
theorem ks_F_28 {X : z_X} {N : Nat} {σ : z_G} (h : z_lay X N σ 0 z_SF z_RF) : z_sh X 28 = (1, 12) := by have h := h.1 28 _ rfl; rw [Nat.zero_add] at h; exact h
theorem kl_F_28 {X : z_X} {N : Nat} {σ : z_G} (h : z_lay X N σ 0 z_SF z_RF) : 28 < N := by have h := h.lt 28 rfl; rw [Nat.zero_add] at h; exact h
theorem ks_F_29 {X : z_X} {N : Nat} {σ : z_G} (h : z_lay X N σ 0 z_SF z_RF) : z_sh X 29 = (0, 9) := by have h := h.1 29 _ rfl; rw [Nat.zero_add] at h; exact h
theorem kl_F_29 {X : z_X} {N : Nat} {σ : z_G} (h : z_lay X N σ 0 z_SF z_RF) : 29 < N := by have h := h.lt 29 rfl; rw [Nat.zero_add] at h; exact h
theorem ks_F_30 {X : z_X} {N : Nat} {σ : z_G} (h : z_lay X N σ 0 z_SF z_RF) : z_sh X 30 = (1, 200) := by have h := h.1 30 _ rfl; rw [Nat.zero_add] at h; exact h
theorem kl_F_30 {X : z_X} {N : Nat} {σ : z_G} (h : z_lay X N σ 0 z_SF z_RF) : 30 < N := by have h := h.lt 30 rfl; rw [Nat.zero_add] at h; exact h
theorem ks_F_31 {X : z_X} {N : Nat} {σ : z_G} (h : z_lay X N σ 0 z_SF z_RF) : z_sh X 31 = (0, 4) := by have h := h.1 31 _ rfl; rw [Nat.zero_add] at h; exact h
theorem kl_F_31 {X : z_X} {N : Nat} {σ : z_G} (h : z_lay X N σ 0 z_SF z_RF) : 31 < N := by have h := h.lt 31 rfl; rw [Nat.zero_add] at h; exact h
theorem ks_F_32 {X : z_X} {N : Nat} {σ : z_G} (h : z_lay X N σ 0 z_SF z_RF) : z_sh X 32 = (1, 60) := by have h := h.1 32 _ rfl; rw [Nat.zero_add] at h; exact h
theorem kl_F_32 {X : z_X} {N : Nat} {σ : z_G} (h : z_lay X N σ 0 z_SF z_RF) : 32 < N := by have h := h.lt 32 rfl; rw [Nat.zero_add] at h; exact h
theorem ks_F_33 {X : z_X} {N : Nat} {σ : z_G} (h : z_lay X N σ 0 z_SF z_RF) : z_sh X 33 = (1, 60) := by have h := h.1 33 _ rfl; rw [Nat.zero_add] at h; exact h
theorem kl_F_33 {X : z_X} {N : Nat} {σ : z_G} (h : z_lay X N σ 0 z_SF z_RF) : 33 < N := by have h := h.lt 33 rfl; rw [Nat.zero_add] at h; exact h
theorem ks_F_34 {X : z_X} {N : Nat} {σ : z_G} (h : z_lay X N σ 0 z_SF z_RF) : z_sh X 34 = (1, 60) := by have h := h.1 34 _ rfl; rw [Nat.zero_add] at h; exact h
theorem kl_F_34 {X : z_X} {N : Nat} {σ : z_G} (h : z_lay X N σ 0 z_SF z_RF) : 34 < N := by have h := h.lt 34 rfl; rw [Nat.zero_add] at h; exact h
theorem ks_F_35 {X : z_X} {N : Nat} {σ : z_G} (h : z_lay X N σ 0 z_SF z_RF) : z_sh X 35 = (1, 60) := by have h := h.1 35 _ rfl; rw [Nat.zero_add] at h; exact h
theorem kl_F_35 {X : z_X} {N : Nat} {σ : z_G} (h : z_lay X N σ 0 z_SF z_RF) : 35 < N := by have h := h.lt 35 rfl; rw [Nat.zero_add] at h; exact h
theorem ks_F_36 {X : z_X} {N : Nat} {σ : z_G} (h : z_lay X N σ 0 z_SF z_RF) : z_sh X 36 = (1, 60) := by have h := h.1 36 _ rfl; rw [Nat.zero_add] at h; exact h
theorem kl_F_36 {X : z_X} {N : Nat} {σ : z_G} (h : z_lay X N σ 0 z_SF z_RF) : 36 < N := by have h := h.lt 36 rfl; rw [Nat.zero_add] at h; exact h
theorem ks_F_37 {X : z_X} {N : Nat} {σ : z_G} (h : z_lay X N σ 0 z_SF z_RF) : z_sh X 37 = (0, 0) := by have h := h.1 37 _ rfl; rw [Nat.zero_add] at h; exact h
theorem kl_F_37 {X : z_X} {N : Nat} {σ : z_G} (h : z_lay X N σ 0 z_SF z_RF) : 37 < N := by have h := h.lt 37 rfl; rw [Nat.zero_add] at h; exact h
theorem ks_F_38 {X : z_X} {N : Nat} {σ : z_G} (h : z_lay X N σ 0 z_SF z_RF) : z_sh X 38 = (0, 6) := by have h := h.1 38 _ rfl; rw [Nat.zero_add] at h; exact h
theorem kl_F_38 {X : z_X} {N : Nat} {σ : z_G} (h : z_lay X N σ 0 z_SF z_RF) : 38 < N := by have h := h.lt 38 rfl; rw [Nat.zero_add] at h; exact h
theorem ks_F_39 {X : z_X} {N : Nat} {σ : z_G} (h : z_lay X N σ 0 z_SF z_RF) : z_sh X 39 = (0, 3) := by have h := h.1 39 _ rfl; rw [Nat.zero_add] at h; exact h
theorem kl_F_39 {X : z_X} {N : Nat} {σ : z_G} (h : z_lay X N σ 0 z_SF z_RF) : 39 < N := by have h := h.lt 39 rfl; rw [Nat.zero_add] at h; exact h
theorem ks_F_40 {X : z_X} {N : Nat} {σ : z_G} (h : z_lay X N σ 0 z_SF z_RF) : z_sh X 40 = (1, 12) := by have h := h.1 40 _ rfl; rw [Nat.zero_add] at h; exact h
theorem kl_F_40 {X : z_X} {N : Nat} {σ : z_G} (h : z_lay X N σ 0 z_SF z_RF) : 40 < N := by have h := h.lt 40 rfl; rw [Nat.zero_add] at h; exact h
theorem ks_F_41 {X : z_X} {N : Nat} {σ : z_G} (h : z_lay X N σ 0 z_SF z_RF) : z_sh X 41 = (1, 12) := by have h := h.1 41 _ rfl; rw [Nat.zero_add] at h; exact h
theorem kl_F_41 {X : z_X} {N : Nat} {σ : z_G} (h : z_lay X N σ 0 z_SF z_RF) : 41 < N := by have h := h.lt 41 rfl; rw [Nat.zero_add] at h; exact h
theorem ks_F_42 {X : z_X} {N : Nat} {σ : z_G} (h : z_lay X N σ 0 z_SF z_RF) : z_sh X 42 = (1, 12) := by have h := h.1 42 _ rfl; rw [Nat.zero_add] at h; exact h
theorem kl_F_42 {X : z_X} {N : Nat} {σ : z_G} (h : z_lay X N σ 0 z_SF z_RF) : 42 < N := by have h := h.lt 42 rfl; rw [Nat.zero_add] at h; exact h
theorem ks_F_43 {X : z_X} {N : Nat} {σ : z_G} (h : z_lay X N σ 0 z_SF z_RF) : z_sh X 43 = (0, 9) := by have h := h.1 43 _ rfl; rw [Nat.zero_add] at h; exact h
theorem kl_F_43 {X : z_X} {N : Nat} {σ : z_G} (h : z_lay X N σ 0 z_SF z_RF) : 43 < N := by have h := h.lt 43 rfl; rw [Nat.zero_add] at h; exact h
theorem ks_F_44 {X : z_X} {N : Nat} {σ : z_G} (h : z_lay X N σ 0 z_SF z_RF) : z_sh X 44 = (1, 200) := by have h := h.1 44 _ rfl; rw [Nat.zero_add] at h; exact h
theorem kl_F_44 {X : z_X} {N : Nat} {σ : z_G} (h : z_lay X N σ 0 z_SF z_RF) : 44 < N := by have h := h.lt 44 rfl; rw [Nat.zero_add] at h; exact h
theorem ks_F_45 {X : z_X} {N : Nat} {σ : z_G} (h : z_lay X N σ 0 z_SF z_RF) : z_sh X 45 = (0, 4) := by have h := h.1 45 _ rfl; rw [Nat.zero_add] at h; exact h
theorem kl_F_45 {X : z_X} {N : Nat} {σ : z_G} (h : z_lay X N σ 0 z_SF z_RF) : 45 < N := by have h := h.lt 45 rfl; rw [Nat.zero_add] at h; exact h
theorem ks_F_46 {X : z_X} {N : Nat} {σ : z_G} (h : z_lay X N σ 0 z_SF z_RF) : z_sh X 46 = (1, 60) := by have h := h.1 46 _ rfl; rw [Nat.zero_add] at h; exact h
theorem kl_F_46 {X : z_X} {N : Nat} {σ : z_G} (h : z_lay X N σ 0 z_SF z_RF) : 46 < N := by have h := h.lt 46 rfl; rw [Nat.zero_add] at h; exact h
theorem ks_F_47 {X : z_X} {N : Nat} {σ : z_G} (h : z_lay X N σ 0 z_SF z_RF) : z_sh X 47 = (1, 60) := by have h := h.1 47 _ rfl; rw [Nat.zero_add] at h; exact h
theorem kl_F_47 {X : z_X} {N : Nat} {σ : z_G} (h : z_lay X N σ 0 z_SF z_RF) : 47 < N := by have h := h.lt 47 rfl; rw [Nat.zero_add] at h; exact h
theorem ks_F_48 {X : z_X} {N : Nat} {σ : z_G} (h : z_lay X N σ 0 z_SF z_RF) : z_sh X 48 = (1, 60) := by have h := h.1 48 _ rfl; rw [Nat.zero_add] at h; exact h
theorem kl_F_48 {X : z_X} {N : Nat} {σ : z_G} (h : z_lay X N σ 0 z_SF z_RF) : 48 < N := by have h := h.lt 48 rfl; rw [Nat.zero_add] at h; exact h
theorem ks_F_49 {X : z_X} {N : Nat} {σ : z_G} (h : z_lay X N σ 0 z_SF z_RF) : z_sh X 49 = (1, 60) := by have h := h.1 49 _ rfl; rw [Nat.zero_add] at h; exact h
theorem kl_F_49 {X : z_X} {N : Nat} {σ : z_G} (h : z_lay X N σ 0 z_SF z_RF) : 49 < N := by have h := h.lt 49 rfl; rw [Nat.zero_add] at h; exact h
theorem ks_F_50 {X : z_X} {N : Nat} {σ : z_G} (h : z_lay X N σ 0 z_SF z_RF) : z_sh X 50 = (1, 60) := by have h := h.1 50 _ rfl; rw [Nat.zero_add] at h; exact h
theorem kl_F_50 {X : z_X} {N : Nat} {σ : z_G} (h : z_lay X N σ 0 z_SF z_RF) : 50 < N := by have h := h.lt 50 rfl; rw [Nat.zero_add] at h; exact h
theorem ks_F_51 {X : z_X} {N : Nat} {σ : z_G} (h : z_lay X N σ 0 z_SF z_RF) : z_sh X 51 = (6, 3) := by have h := h.1 51 _ rfl; rw [Nat.zero_add] at h; exact h
theorem kl_F_51 {X : z_X} {N : Nat} {σ : z_G} (h : z_lay X N σ 0 z_SF z_RF) : 51 < N := by have h := h.lt 51 rfl; rw [Nat.zero_add] at h; exact h
theorem ks_F_52 {X : z_X} {N : Nat} {σ : z_G} (h : z_lay X N σ 0 z_SF z_RF) : z_sh X 52 = (0, 0) := by have h := h.1 52 _ rfl; rw [Nat.zero_add] at h; exact h
theorem kl_F_52 {X : z_X} {N : Nat} {σ : z_G} (h : z_lay X N σ 0 z_SF z_RF) : 52 < N := by have h := h.lt 52 rfl; rw [Nat.zero_add] at h; exact h
theorem ks_F_53 {X : z_X} {N : Nat} {σ : z_G} (h : z_lay X N σ 0 z_SF z_RF) : z_sh X 53 = (0, 6) := by have h := h.1 53 _ rfl; rw [Nat.zero_add] at h; exact h
theorem kl_F_53 {X : z_X} {N : Nat} {σ : z_G} (h : z_lay X N σ 0 z_SF z_RF) : 53 < N := by have h := h.lt 53 rfl; rw [Nat.zero_add] at h; exact h
theorem ks_F_54 {X : z_X} {N : Nat} {σ : z_G} (h : z_lay X N σ 0 z_SF z_RF) : z_sh X 54 = (0, 3) := by have h := h.1 54 _ rfl; rw [Nat.zero_add] at h; exact h
theorem kl_F_54 {X : z_X} {N : Nat} {σ : z_G} (h : z_lay X N σ 0 z_SF z_RF) : 54 < N := by have h := h.lt 54 rfl; rw [Nat.zero_add] at h; exact h
theorem ks_F_55 {X : z_X} {N : Nat} {σ : z_G} (h : z_lay X N σ 0 z_SF z_RF) : z_sh X 55 = (1, 12) := by have h := h.1 55 _ rfl; rw [Nat.zero_add] at h; exact h
theorem kl_F_55 {X : z_X} {N : Nat} {σ : z_G} (h : z_lay X N σ 0 z_SF z_RF) : 55 < N := by have h := h.lt 55 rfl; rw [Nat.zero_add] at h; exact h
theorem ks_F_56 {X : z_X} {N : Nat} {σ : z_G} (h : z_lay X N σ 0 z_SF z_RF) : z_sh X 56 = (1, 12) := by have h := h.1 56 _ rfl; rw [Nat.zero_add] at h; exact h
theorem kl_F_56 {X : z_X} {N : Nat} {σ : z_G} (h : z_lay X N σ 0 z_SF z_RF) : 56 < N := by have h := h.lt 56 rfl; rw [Nat.zero_add] at h; exact h
theorem ks_F_57 {X : z_X} {N : Nat} {σ : z_G} (h : z_lay X N σ 0 z_SF z_RF) : z_sh X 57 = (1, 12) := by have h := h.1 57 _ rfl; rw [Nat.zero_add] at h; exact h
theorem kl_F_57 {X : z_X} {N : Nat} {σ : z_G} (h : z_lay X N σ 0 z_SF z_RF) : 57 < N := by have h := h.lt 57 rfl; rw [Nat.zero_add] at h; exact h
theorem ks_F_58 {X : z_X} {N : Nat} {σ : z_G} (h : z_lay X N σ 0 z_SF z_RF) : z_sh X 58 = (0, 9) := by have h := h.1 58 _ rfl; rw [Nat.zero_add] at h; exact h
theorem kl_F_58 {X : z_X} {N : Nat} {σ : z_G} (h : z_lay X N σ 0 z_SF z_RF) : 58 < N := by have h := h.lt 58 rfl; rw [Nat.zero_add] at h; exact h
theorem ks_F_59 {X : z_X} {N : Nat} {σ : z_G} (h : z_lay X N σ 0 z_SF z_RF) : z_sh X 59 = (1, 200) := by have h := h.1 59 _ rfl; rw [Nat.zero_add] at h; exact h
theorem kl_F_59 {X : z_X} {N : Nat} {σ : z_G} (h : z_lay X N σ 0 z_SF z_RF) : 59 < N := by have h := h.lt 59 rfl; rw [Nat.zero_add] at h; exact h
theorem ks_F_60 {X : z_X} {N : Nat} {σ : z_G} (h : z_lay X N σ 0 z_SF z_RF) : z_sh X 60 = (0, 4) := by have h := h.1 60 _ rfl; rw [Nat.zero_add] at h; exact h
theorem kl_F_60 {X : z_X} {N : Nat} {σ : z_G} (h : z_lay X N σ 0 z_SF z_RF) : 60 < N := by have h := h.lt 60 rfl; rw [Nat.zero_add] at h; exact h
theorem ks_F_61 {X : z_X} {N : Nat} {σ : z_G} (h : z_lay X N σ 0 z_SF z_RF) : z_sh X 61 = (1, 60) := by have h := h.1 61 _ rfl; rw [Nat.zero_add] at h; exact h
theorem kl_F_61 {X : z_X} {N : Nat} {σ : z_G} (h : z_lay X N σ 0 z_SF z_RF) : 61 < N := by have h := h.lt 61 rfl; rw [Nat.zero_add] at h; exact h
theorem ks_F_62 {X : z_X} {N : Nat} {σ : z_G} (h : z_lay X N σ 0 z_SF z_RF) : z_sh X 62 = (1, 60) := by have h := h.1 62 _ rfl; rw [Nat.zero_add] at h; exact h
theorem kl_F_62 {X : z_X} {N : Nat} {σ : z_G} (h : z_lay X N σ 0 z_SF z_RF) : 62 < N := by have h := h.lt 62 rfl; rw [Nat.zero_add] at h; exact h
theorem ks_F_63 {X : z_X} {N : Nat} {σ : z_G} (h : z_lay X N σ 0 z_SF z_RF) : z_sh X 63 = (1, 60) := by have h := h.1 63 _ rfl; rw [Nat.zero_add] at h; exact h
theorem kl_F_63 {X : z_X} {N : Nat} {σ : z_G} (h : z_lay X N σ 0 z_SF z_RF) : 63 < N := by have h := h.lt 63 rfl; rw [Nat.zero_add] at h; exact h
theorem ks_F_64 {X : z_X} {N : Nat} {σ : z_G} (h : z_lay X N σ 0 z_SF z_RF) : z_sh X 64 = (1, 60) := by have h := h.1 64 _ rfl; rw [Nat.zero_add] at h; exact h
theorem kl_F_64 {X : z_X} {N : Nat} {σ : z_G} (h : z_lay X N σ 0 z_SF z_RF) : 64 < N := by have h := h.lt 64 rfl; rw [Nat.zero_add] at h; exact h
theorem ks_F_65 {X : z_X} {N : Nat} {σ : z_G} (h : z_lay X N σ 0 z_SF z_RF) : z_sh X 65 = (1, 60) := by have h := h.1 65 _ rfl; rw [Nat.zero_add] at h; exact h
theorem kl_F_65 {X : z_X} {N : Nat} {σ : z_G} (h : z_lay X N σ 0 z_SF z_RF) : 65 < N := by have h := h.lt 65 rfl; rw [Nat.zero_add] at h; exact h
theorem ks_F_66 {X : z_X} {N : Nat} {σ : z_G} (h : z_lay X N σ 0 z_SF z_RF) : z_sh X 66 = (0, 0) := by have h := h.1 66 _ rfl; rw [Nat.zero_add] at h; exact h
theorem kl_F_66 {X : z_X} {N : Nat} {σ : z_G} (h : z_lay X N σ 0 z_SF z_RF) : 66 < N := by have h := h.lt 66 rfl; rw [Nat.zero_add] at h; exact h
theorem ks_F_67 {X : z_X} {N : Nat} {σ : z_G} (h : z_lay X N σ 0 z_SF z_RF) : z_sh X 67 = (0, 6) := by have h := h.1 67 _ rfl; rw [Nat.zero_add] at h; exact h
theorem kl_F_67 {X : z_X} {N : Nat} {σ : z_G} (h : z_lay X N σ 0 z_SF z_RF) : 67 < N := by have h := h.lt 67 rfl; rw [Nat.zero_add] at h; exact h
theorem ks_F_68 {X : z_X} {N : Nat} {σ : z_G} (h : z_lay X N σ 0 z_SF z_RF) : z_sh X 68 = (0, 3) := by have h := h.1 68 _ rfl; rw [Nat.zero_add] at h; exact h
theorem kl_F_68 {X : z_X} {N : Nat} {σ : z_G} (h : z_lay X N σ 0 z_SF z_RF) : 68 < N := by have h := h.lt 68 rfl; rw [Nat.zero_add] at h; exact h
theorem ks_F_69 {X : z_X} {N : Nat} {σ : z_G} (h : z_lay X N σ 0 z_SF z_RF) : z_sh X 69 = (1, 12) := by have h := h.1 69 _ rfl; rw [Nat.zero_add] at h; exact h
theorem kl_F_69 {X : z_X} {N : Nat} {σ : z_G} (h : z_lay X N σ 0 z_SF z_RF) : 69 < N := by have h := h.lt 69 rfl; rw [Nat.zero_add] at h; exact h
theorem ks_F_70 {X : z_X} {N : Nat} {σ : z_G} (h : z_lay X N σ 0 z_SF z_RF) : z_sh X 70 = (1, 12) := by have h := h.1 70 _ rfl; rw [Nat.zero_add] at h; exact h
theorem kl_F_70 {X : z_X} {N : Nat} {σ : z_G} (h : z_lay X N σ 0 z_SF z_RF) : 70 < N := by have h := h.lt 70 rfl; rw [Nat.zero_add] at h; exact h
theorem ks_F_71 {X : z_X} {N : Nat} {σ : z_G} (h : z_lay X N σ 0 z_SF z_RF) : z_sh X 71 = (1, 12) := by have h := h.1 71 _ rfl; rw [Nat.zero_add] at h; exact h
theorem kl_F_71 {X : z_X} {N : Nat} {σ : z_G} (h : z_lay X N σ 0 z_SF z_RF) : 71 < N := by have h := h.lt 71 rfl; rw [Nat.zero_add] at h; exact h
theorem ks_F_72 {X : z_X} {N : Nat} {σ : z_G} (h : z_lay X N σ 0 z_SF z_RF) : z_sh X 72 = (0, 9) := by have h := h.1 72 _ rfl; rw [Nat.zero_add] at h; exact h
theorem kl_F_72 {X : z_X} {N : Nat} {σ : z_G} (h : z_lay X N σ 0 z_SF z_RF) : 72 < N := by have h := h.lt 72 rfl; rw [Nat.zero_add] at h; exact h
theorem ks_F_73 {X : z_X} {N : Nat} {σ : z_G} (h : z_lay X N σ 0 z_SF z_RF) : z_sh X 73 = (1, 200) := by have h := h.1 73 _ rfl; rw [Nat.zero_add] at h; exact h
theorem kl_F_73 {X : z_X} {N : Nat} {σ : z_G} (h : z_lay X N σ 0 z_SF z_RF) : 73 < N := by have h := h.lt 73 rfl; rw [Nat.zero_add] at h; exact h
theorem ks_F_74 {X : z_X} {N : Nat} {σ : z_G} (h : z_lay X N σ 0 z_SF z_RF) : z_sh X 74 = (0, 4) := by have h := h.1 74 _ rfl; rw [Nat.zero_add] at h; exact h
theorem kl_F_74 {X : z_X} {N : Nat} {σ : z_G} (h : z_lay X N σ 0 z_SF z_RF) : 74 < N := by have h := h.lt 74 rfl; rw [Nat.zero_add] at h; exact h
theorem ks_F_75 {X : z_X} {N : Nat} {σ : z_G} (h : z_lay X N σ 0 z_SF z_RF) : z_sh X 75 = (1, 60) := by have h := h.1 75 _ rfl; rw [Nat.zero_add] at h; exact h
theorem kl_F_75 {X : z_X} {N : Nat} {σ : z_G} (h : z_lay X N σ 0 z_SF z_RF) : 75 < N := by have h := h.lt 75 rfl; rw [Nat.zero_add] at h; exact h
theorem ks_F_76 {X : z_X} {N : Nat} {σ : z_G} (h : z_lay X N σ 0 z_SF z_RF) : z_sh X 76 = (1, 60) := by have h := h.1 76 _ rfl; rw [Nat.zero_add] at h; exact h
theorem kl_F_76 {X : z_X} {N : Nat} {σ : z_G} (h : z_lay X N σ 0 z_SF z_RF) : 76 < N := by have h := h.lt 76 rfl; rw [Nat.zero_add] at h; exact h
theorem ks_F_77 {X : z_X} {N : Nat} {σ : z_G} (h : z_lay X N σ 0 z_SF z_RF) : z_sh X 77 = (1, 60) := by have h := h.1 77 _ rfl; rw [Nat.zero_add] at h; exact h
theorem kl_F_77 {X : z_X} {N : Nat} {σ : z_G} (h : z_lay X N σ 0 z_SF z_RF) : 77 < N := by have h := h.lt 77 rfl; rw [Nat.zero_add] at h; exact h
theorem ks_F_78 {X : z_X} {N : Nat} {σ : z_G} (h : z_lay X N σ 0 z_SF z_RF) : z_sh X 78 = (1, 60) := by have h := h.1 78 _ rfl; rw [Nat.zero_add] at h; exact h
theorem kl_F_78 {X : z_X} {N : Nat} {σ : z_G} (h : z_lay X N σ 0 z_SF z_RF) : 78 < N := by have h := h.lt 78 rfl; rw [Nat.zero_add] at h; exact h
theorem ks_F_79 {X : z_X} {N : Nat} {σ : z_G} (h : z_lay X N σ 0 z_SF z_RF) : z_sh X 79 = (1, 60) := by have h := h.1 79 _ rfl; rw [Nat.zero_add] at h; exact h
theorem kl_F_79 {X : z_X} {N : Nat} {σ : z_G} (h : z_lay X N σ 0 z_SF z_RF) : 79 < N := by have h := h.lt 79 rfl; rw [Nat.zero_add] at h; exact h
theorem ks_F_80 {X : z_X} {N : Nat} {σ : z_G} (h : z_lay X N σ 0 z_SF z_RF) : z_sh X 80 = (0, 0) := by have h := h.1 80 _ rfl; rw [Nat.zero_add] at h; exact h
theorem kl_F_80 {X : z_X} {N : Nat} {σ : z_G} (h : z_lay X N σ 0 z_SF z_RF) : 80 < N := by have h := h.lt 80 rfl; rw [Nat.zero_add] at h; exact h
theorem ks_F_81 {X : z_X} {N : Nat} {σ : z_G} (h : z_lay X N σ 0 z_SF z_RF) : z_sh X 81 = (0, 6) := by have h := h.1 81 _ rfl; rw [Nat.zero_add] at h; exact h
theorem kl_F_81 {X : z_X} {N : Nat} {σ : z_G} (h : z_lay X N σ 0 z_SF z_RF) : 81 < N := by have h := h.lt 81 rfl; rw [Nat.zero_add] at h; exact h
theorem ks_F_82 {X : z_X} {N : Nat} {σ : z_G} (h : z_lay X N σ 0 z_SF z_RF) : z_sh X 82 = (0, 3) := by have h := h.1 82 _ rfl; rw [Nat.zero_add] at h; exact h
theorem kl_F_82 {X : z_X} {N : Nat} {σ : z_G} (h : z_lay X N σ 0 z_SF z_RF) : 82 < N := by have h := h.lt 82 rfl; rw [Nat.zero_add] at h; exact h
theorem ks_F_83 {X : z_X} {N : Nat} {σ : z_G} (h : z_lay X N σ 0 z_SF z_RF) : z_sh X 83 = (1, 12) := by have h := h.1 83 _ rfl; rw [Nat.zero_add] at h; exact h
theorem kl_F_83 {X : z_X} {N : Nat} {σ : z_G} (h : z_lay X N σ 0 z_SF z_RF) : 83 < N := by have h := h.lt 83 rfl; rw [Nat.zero_add] at h; exact h
theorem ks_F_84 {X : z_X} {N : Nat} {σ : z_G} (h : z_lay X N σ 0 z_SF z_RF) : z_sh X 84 = (1, 12) := by have h := h.1 84 _ rfl; rw [Nat.zero_add] at h; exact h
theorem kl_F_84 {X : z_X} {N : Nat} {σ : z_G} (h : z_lay X N σ 0 z_SF z_RF) : 84 < N := by have h := h.lt 84 rfl; rw [Nat.zero_add] at h; exact h
theorem ks_F_85 {X : z_X} {N : Nat} {σ : z_G} (h : z_lay X N σ 0 z_SF z_RF) : z_sh X 85 = (1, 12) := by have h := h.1 85 _ rfl; rw [Nat.zero_add] at h; exact h
theorem kl_F_85 {X : z_X} {N : Nat} {σ : z_G} (h : z_lay X N σ 0 z_SF z_RF) : 85 < N := by have h := h.lt 85 rfl; rw [Nat.zero_add] at h; exact h
theorem ks_F_86 {X : z_X} {N : Nat} {σ : z_G} (h : z_lay X N σ 0 z_SF z_RF) : z_sh X 86 = (0, 9) := by have h := h.1 86 _ rfl; rw [Nat.zero_add] at h; exact h
theorem kl_F_86 {X : z_X} {N : Nat} {σ : z_G} (h : z_lay X N σ 0 z_SF z_RF) : 86 < N := by have h := h.lt 86 rfl; rw [Nat.zero_add] at h; exact h
theorem ks_F_87 {X : z_X} {N : Nat} {σ : z_G} (h : z_lay X N σ 0 z_SF z_RF) : z_sh X 87 = (1, 200) := by have h := h.1 87 _ rfl; rw [Nat.zero_add] at h; exact h
theorem kl_F_87 {X : z_X} {N : Nat} {σ : z_G} (h : z_lay X N σ 0 z_SF z_RF) : 87 < N := by have h := h.lt 87 rfl; rw [Nat.zero_add] at h; exact h
theorem ks_F_88 {X : z_X} {N : Nat} {σ : z_G} (h : z_lay X N σ 0 z_SF z_RF) : z_sh X 88 = (0, 4) := by have h := h.1 88 _ rfl; rw [Nat.zero_add] at h; exact h
theorem kl_F_88 {X : z_X} {N : Nat} {σ : z_G} (h : z_lay X N σ 0 z_SF z_RF) : 88 < N := by have h := h.lt 88 rfl; rw [Nat.zero_add] at h; exact h
theorem ks_F_89 {X : z_X} {N : Nat} {σ : z_G} (h : z_lay X N σ 0 z_SF z_RF) : z_sh X 89 = (1, 60) := by have h := h.1 89 _ rfl; rw [Nat.zero_add] at h; exact h
theorem kl_F_89 {X : z_X} {N : Nat} {σ : z_G} (h : z_lay X N σ 0 z_SF z_RF) : 89 < N := by have h := h.lt 89 rfl; rw [Nat.zero_add] at h; exact h
theorem ks_F_90 {X : z_X} {N : Nat} {σ : z_G} (h : z_lay X N σ 0 z_SF z_RF) : z_sh X 90 = (1, 60) := by have h := h.1 90 _ rfl; rw [Nat.zero_add] at h; exact h
theorem kl_F_90 {X : z_X} {N : Nat} {σ : z_G} (h : z_lay X N σ 0 z_SF z_RF) : 90 < N := by have h := h.lt 90 rfl; rw [Nat.zero_add] at h; exact h
theorem ks_F_91 {X : z_X} {N : Nat} {σ : z_G} (h : z_lay X N σ 0 z_SF z_RF) : z_sh X 91 = (1, 60) := by have h := h.1 91 _ rfl; rw [Nat.zero_add] at h; exact h
theorem kl_F_91 {X : z_X} {N : Nat} {σ : z_G} (h : z_lay X N σ 0 z_SF z_RF) : 91 < N := by have h := h.lt 91 rfl; rw [Nat.zero_add] at h; exact h
theorem ks_F_92 {X : z_X} {N : Nat} {σ : z_G} (h : z_lay X N σ 0 z_SF z_RF) : z_sh X 92 = (1, 60) := by have h := h.1 92 _ rfl; rw [Nat.zero_add] at h; exact h
theorem kl_F_92 {X : z_X} {N : Nat} {σ : z_G} (h : z_lay X N σ 0 z_SF z_RF) : 92 < N := by have h := h.lt 92 rfl; rw [Nat.zero_add] at h; exact h
theorem ks_F_93 {X : z_X} {N : Nat} {σ : z_G} (h : z_lay X N σ 0 z_SF z_RF) : z_sh X 93 = (1, 60) := by have h := h.1 93 _ rfl; rw [Nat.zero_add] at h; exact h
theorem kl_F_93 {X : z_X} {N : Nat} {σ : z_G} (h : z_lay X N σ 0 z_SF z_RF) : 93 < N := by have h := h.lt 93 rfl; rw [Nat.zero_add] at h; exact h
theorem ks_F_94 {X : z_X} {N : Nat} {σ : z_G} (h : z_lay X N σ 0 z_SF z_RF) : z_sh X 94 = (0, 10) := by have h := h.1 94 _ rfl; rw [Nat.zero_add] at h; exact h
theorem kl_F_94 {X : z_X} {N : Nat} {σ : z_G} (h : z_lay X N σ 0 z_SF z_RF) : 94 < N := by have h := h.lt 94 rfl; rw [Nat.zero_add] at h; exact h
theorem ks_F_95 {X : z_X} {N : Nat} {σ : z_G} (h : z_lay X N σ 0 z_SF z_RF) : z_sh X 95 = (1, 60) := by have h := h.1 95 _ rfl; rw [Nat.zero_add] at h; exact h
theorem kl_F_95 {X : z_X} {N : Nat} {σ : z_G} (h : z_lay X N σ 0 z_SF z_RF) : 95 < N := by have h := h.lt 95 rfl; rw [Nat.zero_add] at h; exact h
theorem ks_F_96 {X : z_X} {N : Nat} {σ : z_G} (h : z_lay X N σ 0 z_SF z_RF) : z_sh X 96 = (0, 10) := by have h := h.1 96 _ rfl; rw [Nat.zero_add] at h; exact h
theorem kl_F_96 {X : z_X} {N : Nat} {σ : z_G} (h : z_lay X N σ 0 z_SF z_RF) : 96 < N := by have h := h.lt 96 rfl; rw [Nat.zero_add] at h; exact h
theorem ks_F_97 {X : z_X} {N : Nat} {σ : z_G} (h : z_lay X N σ 0 z_SF z_RF) : z_sh X 97 = (1, 60) := by have h := h.1 97 _ rfl; rw [Nat.zero_add] at h; exact h
theorem kl_F_97 {X : z_X} {N : Nat} {σ : z_G} (h : z_lay X N σ 0 z_SF z_RF) : 97 < N := by have h := h.lt 97 rfl; rw [Nat.zero_add] at h; exact h
theorem kr_F_0_3 {X : z_X} {N : Nat} {σ : z_G} (h : z_lay X N σ 0 z_SF z_RF) : σ 0 3 = 1 := by have h := h.2.2 0 _ rfl; rw [Nat.zero_add, Nat.zero_add] at h; exact h
theorem kr_F_1_0 {X : z_X} {N : Nat} {σ : z_G} (h : z_lay X N σ 0 z_SF z_RF) : σ 1 0 = 2 := by have h := h.2.2 1 _ rfl; rw [Nat.zero_add, Nat.zero_add] at h; exact h
theorem kr_F_1_1 {X : z_X} {N : Nat} {σ : z_G} (h : z_lay X N σ 0 z_SF z_RF) : σ 1 1 = 7 := by have h := h.2.2 2 _ rfl; rw [Nat.zero_add, Nat.zero_add] at h; exact h
theorem kr_F_1_2 {X : z_X} {N : Nat} {σ : z_G} (h : z_lay X N σ 0 z_SF z_RF) : σ 1 2 = 8 := by have h := h.2.2 3 _ rfl; rw [Nat.zero_add, Nat.zero_add] at h; exact h
theorem kr_F_2_0 {X : z_X} {N : Nat} {σ : z_G} (h : z_lay X N σ 0 z_SF z_RF) : σ 2 0 = 3 := by have h := h.2.2 4 _ rfl; rw [Nat.zero_add, Nat.zero_add] at h; exact h
theorem kr_F_2_1 {X : z_X} {N : Nat} {σ : z_G} (h : z_lay X N σ 0 z_SF z_RF) : σ 2 1 = 4 := by have h := h.2.2 5 _ rfl; rw [Nat.zero_add, Nat.zero_add] at h; exact h
theorem kr_F_2_2 {X : z_X} {N : Nat} {σ : z_G} (h : z_lay X N σ 0 z_SF z_RF) : σ 2 2 = 5 := by have h := h.2.2 6 _ rfl; rw [Nat.zero_add, Nat.zero_add] at h; exact h
theorem kr_F_2_3 {X : z_X} {N : Nat} {σ : z_G} (h : z_lay X N σ 0 z_SF z_RF) : σ 2 3 = 6 := by have h := h.2.2 7 _ rfl; rw [Nat.zero_add, Nat.zero_add] at h; exact h
theorem kr_F_0_4 {X : z_X} {N : Nat} {σ : z_G} (h : z_lay X N σ 0 z_SF z_RF) : σ 0 4 = 9 := by have h := h.2.2 8 _ rfl; rw [Nat.zero_add, Nat.zero_add] at h; exact h
theorem kr_F_9_0 {X : z_X} {N : Nat} {σ : z_G} (h : z_lay X N σ 0 z_SF z_RF) : σ 9 0 = 10 := by have h := h.2.2 9 _ rfl; rw [Nat.zero_add, Nat.zero_add] at h; exact h
theorem kr_F_9_1 {X : z_X} {N : Nat} {σ : z_G} (h : z_lay X N σ 0 z_SF z_RF) : σ 9 1 = 12 := by have h := h.2.2 10 _ rfl; rw [Nat.zero_add, Nat.zero_add] at h; exact h
theorem kr_F_9_5 {X : z_X} {N : Nat} {σ : z_G} (h : z_lay X N σ 0 z_SF z_RF) : σ 9 5 = 14 := by have h := h.2.2 11 _ rfl; rw [Nat.zero_add, Nat.zero_add] at h; exact h
theorem kr_F_10_0 {X : z_X} {N : Nat} {σ : z_G} (h : z_lay X N σ 0 z_SF z_RF) : σ 10 0 = 11 := by have h := h.2.2 12 _ rfl; rw [Nat.zero_add, Nat.zero_add] at h; exact h
theorem kr_F_12_0 {X : z_X} {N : Nat} {σ : z_G} (h : z_lay X N σ 0 z_SF z_RF) : σ 12 0 = 13 := by have h := h.2.2 13 _ rfl; rw [Nat.zero_add, Nat.zero_add] at h; exact h
theorem kr_F_0_7 {X : z_X} {N : Nat} {σ : z_G} (h : z_lay X N σ 0 z_SF z_RF) : σ 0 7 = 15 := by have h := h.2.2 14 _ rfl; rw [Nat.zero_add, Nat.zero_add] at h; exact h
theorem kr_F_15_0 {X : z_X} {N : Nat} {σ : z_G} (h : z_lay X N σ 0 z_SF z_RF) : σ 15 0 = 16 := by have h := h.2.2 15 _ rfl; rw [Nat.zero_add, Nat.zero_add] at h; exact h
theorem kr_F_15_1 {X : z_X} {N : Nat} {σ : z_G} (h : z_lay X N σ 0 z_SF z_RF) : σ 15 1 = 17 := by have h := h.2.2 16 _ rfl; rw [Nat.zero_add, Nat.zero_add] at h; exact h
theorem kr_F_0_8 {X : z_X} {N : Nat} {σ : z_G} (h : z_lay X N σ 0 z_SF z_RF) : σ 0 8 = 18 := by have h := h.2.2 17 _ rfl; rw [Nat.zero_add, Nat.zero_add] at h; exact h
theorem kr_F_18_0 {X : z_X} {N : Nat} {σ : z_G} (h : z_lay X N σ 0 z_SF z_RF) : σ 18 0 = 19 := by have h := h.2.2 18 _ rfl; rw [Nat.zero_add, Nat.zero_add] at h; exact h
theorem kr_F_0_9 {X : z_X} {N : Nat} {σ : z_G} (h : z_lay X N σ 0 z_SF z_RF) : σ 0 9 = 20 := by have h := h.2.2 19 _ rfl; rw [Nat.zero_add, Nat.zero_add] at h; exact h
theorem kr_F_20_0 {X : z_X} {N : Nat} {σ : z_G} (h : z_lay X N σ 0 z_SF z_RF) : σ 20 0 = 21 := by have h := h.2.2 20 _ rfl; rw [Nat.zero_add, Nat.zero_add] at h; exact h
theorem kr_F_0_10 {X : z_X} {N : Nat} {σ : z_G} (h : z_lay X N σ 0 z_SF z_RF) : σ 0 10 = 22 := by have h := h.2.2 21 _ rfl; rw [Nat.zero_add, Nat.zero_add] at h; exact h
theorem kr_F_0_11 {X : z_X} {N : Nat} {σ : z_G} (h : z_lay X N σ 0 z_SF z_RF) : σ 0 11 = 23 := by have h := h.2.2 22 _ rfl; rw [Nat.zero_add, Nat.zero_add] at h; exact h
theorem kr_F_23_2 {X : z_X} {N : Nat} {σ : z_G} (h : z_lay X N σ 0 z_SF z_RF) : σ 23 2 = 24 := by have h := h.2.2 23 _ rfl; rw [Nat.zero_add, Nat.zero_add] at h; exact h
theorem kr_F_23_3 {X : z_X} {N : Nat} {σ : z_G} (h : z_lay X N σ 0 z_SF z_RF) : σ 23 3 = 25 := by have h := h.2.2 24 _ rfl; rw [Nat.zero_add, Nat.zero_add] at h; exact h
theorem kr_F_23_4 {X : z_X} {N : Nat} {σ : z_G} (h : z_lay X N σ 0 z_SF z_RF) : σ 23 4 = 29 := by have h := h.2.2 25 _ rfl; rw [Nat.zero_add, Nat.zero_add] at h; exact h
theorem kr_F_23_5 {X : z_X} {N : Nat} {σ : z_G} (h : z_lay X N σ 0 z_SF z_RF) : σ 23 5 = 31 := by have h := h.2.2 26 _ rfl; rw [Nat.zero_add, Nat.zero_add] at h; exact h
theorem kr_F_25_0 {X : z_X} {N : Nat} {σ : z_G} (h : z_lay X N σ 0 z_SF z_RF) : σ 25 0 = 26 := by have h := h.2.2 27 _ rfl; rw [Nat.zero_add, Nat.zero_add] at h; exact h
theorem kr_F_25_1 {X : z_X} {N : Nat} {σ : z_G} (h : z_lay X N σ 0 z_SF z_RF) : σ 25 1 = 27 := by have h := h.2.2 28 _ rfl; rw [Nat.zero_add, Nat.zero_add] at h; exact h
theorem kr_F_25_2 {X : z_X} {N : Nat} {σ : z_G} (h : z_lay X N σ 0 z_SF z_RF) : σ 25 2 = 28 := by have h := h.2.2 29 _ rfl; rw [Nat.zero_add, Nat.zero_add] at h; exact h
theorem kr_F_29_0 {X : z_X} {N : Nat} {σ : z_G} (h : z_lay X N σ 0 z_SF z_RF) : σ 29 0 = 30 := by have h := h.2.2 30 _ rfl; rw [Nat.zero_add, Nat.zero_add] at h; exact h
theorem kr_F_31_3 {X : z_X} {N : Nat} {σ : z_G} (h : z_lay X N σ 0 z_SF z_RF) : σ 31 3 = 32 := by have h := h.2.2 31 _ rfl; rw [Nat.zero_add, Nat.zero_add] at h; exact h
theorem kr_F_31_4 {X : z_X} {N : Nat} {σ : z_G} (h : z_lay X N σ 0 z_SF z_RF) : σ 31 4 = 33 := by have h := h.2.2 32 _ rfl; rw [Nat.zero_add, Nat.zero_add] at h; exact h
theorem kr_F_31_5 {X : z_X} {N : Nat} {σ : z_G} (h : z_lay X N σ 0 z_SF z_RF) : σ 31 5 = 34 := by have h := h.2.2 33 _ rfl; rw [Nat.zero_add, Nat.zero_add] at h; exact h
theorem kr_F_31_6 {X : z_X} {N : Nat} {σ : z_G} (h : z_lay X N σ 0 z_SF z_RF) : σ 31 6 = 35 := by have h := h.2.2 34 _ rfl; rw [Nat.zero_add, Nat.zero_add] at h; exact h
theorem kr_F_31_7 {X : z_X} {N : Nat} {σ : z_G} (h : z_lay X N σ 0 z_SF z_RF) : σ 31 7 = 36 := by have h := h.2.2 35 _ rfl; rw [Nat.zero_add, Nat.zero_add] at h; exact h
theorem kr_F_0_12 {X : z_X} {N : Nat} {σ : z_G} (h : z_lay X N σ 0 z_SF z_RF) : σ 0 12 = 37 := by have h := h.2.2 36 _ rfl; rw [Nat.zero_add, Nat.zero_add] at h; exact h
theorem kr_F_37_2 {X : z_X} {N : Nat} {σ : z_G} (h : z_lay X N σ 0 z_SF z_RF) : σ 37 2 = 38 := by have h := h.2.2 37 _ rfl; rw [Nat.zero_add, Nat.zero_add] at h; exact h
theorem kr_F_37_3 {X : z_X} {N : Nat} {σ : z_G} (h : z_lay X N σ 0 z_SF z_RF) : σ 37 3 = 39 := by have h := h.2.2 38 _ rfl; rw [Nat.zero_add, Nat.zero_add] at h; exact h
theorem kr_F_37_4 {X : z_X} {N : Nat} {σ : z_G} (h : z_lay X N σ 0 z_SF z_RF) : σ 37 4 = 43 := by have h := h.2.2 39 _ rfl; rw [Nat.zero_add, Nat.zero_add] at h; exact h
theorem kr_F_37_5 {X : z_X} {N : Nat} {σ : z_G} (h : z_lay X N σ 0 z_SF z_RF) : σ 37 5 = 45 := by have h := h.2.2 40 _ rfl; rw [Nat.zero_add, Nat.zero_add] at h; exact h
theorem kr_F_39_0 {X : z_X} {N : Nat} {σ : z_G} (h : z_lay X N σ 0 z_SF z_RF) : σ 39 0 = 40 := by have h := h.2.2 41 _ rfl; rw [Nat.zero_add, Nat.zero_add] at h; exact h
theorem kr_F_39_1 {X : z_X} {N : Nat} {σ : z_G} (h : z_lay X N σ 0 z_SF z_RF) : σ 39 1 = 41 := by have h := h.2.2 42 _ rfl; rw [Nat.zero_add, Nat.zero_add] at h; exact h
theorem kr_F_39_2 {X : z_X} {N : Nat} {σ : z_G} (h : z_lay X N σ 0 z_SF z_RF) : σ 39 2 = 42 := by have h := h.2.2 43 _ rfl; rw [Nat.zero_add, Nat.zero_add] at h; exact h
theorem kr_F_43_0 {X : z_X} {N : Nat} {σ : z_G} (h : z_lay X N σ 0 z_SF z_RF) : σ 43 0 = 44 := by have h := h.2.2 44 _ rfl; rw [Nat.zero_add, Nat.zero_add] at h; exact h
theorem kr_F_45_3 {X : z_X} {N : Nat} {σ : z_G} (h : z_lay X N σ 0 z_SF z_RF) : σ 45 3 = 46 := by have h := h.2.2 45 _ rfl; rw [Nat.zero_add, Nat.zero_add] at h; exact h
theorem kr_F_45_4 {X : z_X} {N : Nat} {σ : z_G} (h : z_lay X N σ 0 z_SF z_RF) : σ 45 4 = 47 := by have h := h.2.2 46 _ rfl; rw [Nat.zero_add, Nat.zero_add] at h; exact h
theorem kr_F_45_5 {X : z_X} {N : Nat} {σ : z_G} (h : z_lay X N σ 0 z_SF z_RF) : σ 45 5 = 48 := by have h := h.2.2 47 _ rfl; rw [Nat.zero_add, Nat.zero_add] at h; exact h
theorem kr_F_45_6 {X : z_X} {N : Nat} {σ : z_G} (h : z_lay X N σ 0 z_SF z_RF) : σ 45 6 = 49 := by have h := h.2.2 48 _ rfl; rw [Nat.zero_add, Nat.zero_add] at h; exact h
theorem kr_F_45_7 {X : z_X} {N : Nat} {σ : z_G} (h : z_lay X N σ 0 z_SF z_RF) : σ 45 7 = 50 := by have h := h.2.2 49 _ rfl; rw [Nat.zero_add, Nat.zero_add] at h; exact h
theorem kr_F_0_13 {X : z_X} {N : Nat} {σ : z_G} (h : z_lay X N σ 0 z_SF z_RF) : σ 0 13 = 51 := by have h := h.2.2 50 _ rfl; rw [Nat.zero_add, Nat.zero_add] at h; exact h
theorem kr_F_51_0 {X : z_X} {N : Nat} {σ : z_G} (h : z_lay X N σ 0 z_SF z_RF) : σ 51 0 = 52 := by have h := h.2.2 51 _ rfl; rw [Nat.zero_add, Nat.zero_add] at h; exact h
theorem kr_F_52_2 {X : z_X} {N : Nat} {σ : z_G} (h : z_lay X N σ 0 z_SF z_RF) : σ 52 2 = 53 := by have h := h.2.2 52 _ rfl; rw [Nat.zero_add, Nat.zero_add] at h; exact h
theorem kr_F_52_3 {X : z_X} {N : Nat} {σ : z_G} (h : z_lay X N σ 0 z_SF z_RF) : σ 52 3 = 54 := by have h := h.2.2 53 _ rfl; rw [Nat.zero_add, Nat.zero_add] at h; exact h
theorem kr_F_52_4 {X : z_X} {N : Nat} {σ : z_G} (h : z_lay X N σ 0 z_SF z_RF) : σ 52 4 = 58 := by have h := h.2.2 54 _ rfl; rw [Nat.zero_add, Nat.zero_add] at h; exact h
theorem kr_F_52_5 {X : z_X} {N : Nat} {σ : z_G} (h : z_lay X N σ 0 z_SF z_RF) : σ 52 5 = 60 := by have h := h.2.2 55 _ rfl; rw [Nat.zero_add, Nat.zero_add] at h; exact h
theorem kr_F_54_0 {X : z_X} {N : Nat} {σ : z_G} (h : z_lay X N σ 0 z_SF z_RF) : σ 54 0 = 55 := by have h := h.2.2 56 _ rfl; rw [Nat.zero_add, Nat.zero_add] at h; exact h
theorem kr_F_54_1 {X : z_X} {N : Nat} {σ : z_G} (h : z_lay X N σ 0 z_SF z_RF) : σ 54 1 = 56 := by have h := h.2.2 57 _ rfl; rw [Nat.zero_add, Nat.zero_add] at h; exact h
theorem kr_F_54_2 {X : z_X} {N : Nat} {σ : z_G} (h : z_lay X N σ 0 z_SF z_RF) : σ 54 2 = 57 := by have h := h.2.2 58 _ rfl; rw [Nat.zero_add, Nat.zero_add] at h; exact h
theorem kr_F_58_0 {X : z_X} {N : Nat} {σ : z_G} (h : z_lay X N σ 0 z_SF z_RF) : σ 58 0 = 59 := by have h := h.2.2 59 _ rfl; rw [Nat.zero_add, Nat.zero_add] at h; exact h
theorem kr_F_60_3 {X : z_X} {N : Nat} {σ : z_G} (h : z_lay X N σ 0 z_SF z_RF) : σ 60 3 = 61 := by have h := h.2.2 60 _ rfl; rw [Nat.zero_add, Nat.zero_add] at h; exact h
theorem kr_F_60_4 {X : z_X} {N : Nat} {σ : z_G} (h : z_lay X N σ 0 z_SF z_RF) : σ 60 4 = 62 := by have h := h.2.2 61 _ rfl; rw [Nat.zero_add, Nat.zero_add] at h; exact h
theorem kr_F_60_5 {X : z_X} {N : Nat} {σ : z_G} (h : z_lay X N σ 0 z_SF z_RF) : σ 60 5 = 63 := by have h := h.2.2 62 _ rfl; rw [Nat.zero_add, Nat.zero_add] at h; exact h
theorem kr_F_60_6 {X : z_X} {N : Nat} {σ : z_G} (h : z_lay X N σ 0 z_SF z_RF) : σ 60 6 = 64 := by have h := h.2.2 63 _ rfl; rw [Nat.zero_add, Nat.zero_add] at h; exact h
theorem kr_F_60_7 {X : z_X} {N : Nat} {σ : z_G} (h : z_lay X N σ 0 z_SF z_RF) : σ 60 7 = 65 := by have h := h.2.2 64 _ rfl; rw [Nat.zero_add, Nat.zero_add] at h; exact h
theorem kr_F_51_1 {X : z_X} {N : Nat} {σ : z_G} (h : z_lay X N σ 0 z_SF z_RF) : σ 51 1 = 66 := by have h := h.2.2 65 _ rfl; rw [Nat.zero_add, Nat.zero_add] at h; exact h
theorem kr_F_66_2 {X : z_X} {N : Nat} {σ : z_G} (h : z_lay X N σ 0 z_SF z_RF) : σ 66 2 = 67 := by have h := h.2.2 66 _ rfl; rw [Nat.zero_add, Nat.zero_add] at h; exact h
theorem kr_F_66_3 {X : z_X} {N : Nat} {σ : z_G} (h : z_lay X N σ 0 z_SF z_RF) : σ 66 3 = 68 := by have h := h.2.2 67 _ rfl; rw [Nat.zero_add, Nat.zero_add] at h; exact h
theorem kr_F_66_4 {X : z_X} {N : Nat} {σ : z_G} (h : z_lay X N σ 0 z_SF z_RF) : σ 66 4 = 72 := by have h := h.2.2 68 _ rfl; rw [Nat.zero_add, Nat.zero_add] at h; exact h
theorem kr_F_66_5 {X : z_X} {N : Nat} {σ : z_G} (h : z_lay X N σ 0 z_SF z_RF) : σ 66 5 = 74 := by have h := h.2.2 69 _ rfl; rw [Nat.zero_add, Nat.zero_add] at h; exact h
theorem kr_F_68_0 {X : z_X} {N : Nat} {σ : z_G} (h : z_lay X N σ 0 z_SF z_RF) : σ 68 0 = 69 := by have h := h.2.2 70 _ rfl; rw [Nat.zero_add, Nat.zero_add] at h; exact h
theorem kr_F_68_1 {X : z_X} {N : Nat} {σ : z_G} (h : z_lay X N σ 0 z_SF z_RF) : σ 68 1 = 70 := by have h := h.2.2 71 _ rfl; rw [Nat.zero_add, Nat.zero_add] at h; exact h
theorem kr_F_68_2 {X : z_X} {N : Nat} {σ : z_G} (h : z_lay X N σ 0 z_SF z_RF) : σ 68 2 = 71 := by have h := h.2.2 72 _ rfl; rw [Nat.zero_add, Nat.zero_add] at h; exact h
theorem kr_F_72_0 {X : z_X} {N : Nat} {σ : z_G} (h : z_lay X N σ 0 z_SF z_RF) : σ 72 0 = 73 := by have h := h.2.2 73 _ rfl; rw [Nat.zero_add, Nat.zero_add] at h; exact h
theorem kr_F_74_3 {X : z_X} {N : Nat} {σ : z_G} (h : z_lay X N σ 0 z_SF z_RF) : σ 74 3 = 75 := by have h := h.2.2 74 _ rfl; rw [Nat.zero_add, Nat.zero_add] at h; exact h
theorem kr_F_74_4 {X : z_X} {N : Nat} {σ : z_G} (h : z_lay X N σ 0 z_SF z_RF) : σ 74 4 = 76 := by have h := h.2.2 75 _ rfl; rw [Nat.zero_add, Nat.zero_add] at h; exact h
theorem kr_F_74_5 {X : z_X} {N : Nat} {σ : z_G} (h : z_lay X N σ 0 z_SF z_RF) : σ 74 5 = 77 := by have h := h.2.2 76 _ rfl; rw [Nat.zero_add, Nat.zero_add] at h; exact h
theorem kr_F_74_6 {X : z_X} {N : Nat} {σ : z_G} (h : z_lay X N σ 0 z_SF z_RF) : σ 74 6 = 78 := by have h := h.2.2 77 _ rfl; rw [Nat.zero_add, Nat.zero_add] at h; exact h
theorem kr_F_74_7 {X : z_X} {N : Nat} {σ : z_G} (h : z_lay X N σ 0 z_SF z_RF) : σ 74 7 = 79 := by have h := h.2.2 78 _ rfl; rw [Nat.zero_add, Nat.zero_add] at h; exact h
theorem kr_F_51_2 {X : z_X} {N : Nat} {σ : z_G} (h : z_lay X N σ 0 z_SF z_RF) : σ 51 2 = 80 := by have h := h.2.2 79 _ rfl; rw [Nat.zero_add, Nat.zero_add] at h; exact h
theorem kr_F_80_2 {X : z_X} {N : Nat} {σ : z_G} (h : z_lay X N σ 0 z_SF z_RF) : σ 80 2 = 81 := by have h := h.2.2 80 _ rfl; rw [Nat.zero_add, Nat.zero_add] at h; exact h
theorem kr_F_80_3 {X : z_X} {N : Nat} {σ : z_G} (h : z_lay X N σ 0 z_SF z_RF) : σ 80 3 = 82 := by have h := h.2.2 81 _ rfl; rw [Nat.zero_add, Nat.zero_add] at h; exact h
theorem kr_F_80_4 {X : z_X} {N : Nat} {σ : z_G} (h : z_lay X N σ 0 z_SF z_RF) : σ 80 4 = 86 := by have h := h.2.2 82 _ rfl; rw [Nat.zero_add, Nat.zero_add] at h; exact h
theorem kr_F_80_5 {X : z_X} {N : Nat} {σ : z_G} (h : z_lay X N σ 0 z_SF z_RF) : σ 80 5 = 88 := by have h := h.2.2 83 _ rfl; rw [Nat.zero_add, Nat.zero_add] at h; exact h
theorem kr_F_82_0 {X : z_X} {N : Nat} {σ : z_G} (h : z_lay X N σ 0 z_SF z_RF) : σ 82 0 = 83 := by have h := h.2.2 84 _ rfl; rw [Nat.zero_add, Nat.zero_add] at h; exact h
theorem kr_F_82_1 {X : z_X} {N : Nat} {σ : z_G} (h : z_lay X N σ 0 z_SF z_RF) : σ 82 1 = 84 := by have h := h.2.2 85 _ rfl; rw [Nat.zero_add, Nat.zero_add] at h; exact h
theorem kr_F_82_2 {X : z_X} {N : Nat} {σ : z_G} (h : z_lay X N σ 0 z_SF z_RF) : σ 82 2 = 85 := by have h := h.2.2 86 _ rfl; rw [Nat.zero_add, Nat.zero_add] at h; exact h
theorem kr_F_86_0 {X : z_X} {N : Nat} {σ : z_G} (h : z_lay X N σ 0 z_SF z_RF) : σ 86 0 = 87 := by have h := h.2.2 87 _ rfl; rw [Nat.zero_add, Nat.zero_add] at h; exact h
theorem kr_F_88_3 {X : z_X} {N : Nat} {σ : z_G} (h : z_lay X N σ 0 z_SF z_RF) : σ 88 3 = 89 := by have h := h.2.2 88 _ rfl; rw [Nat.zero_add, Nat.zero_add] at h; exact h
theorem kr_F_88_4 {X : z_X} {N : Nat} {σ : z_G} (h : z_lay X N σ 0 z_SF z_RF) : σ 88 4 = 90 := by have h := h.2.2 89 _ rfl; rw [Nat.zero_add, Nat.zero_add] at h; exact h
theorem kr_F_88_5 {X : z_X} {N : Nat} {σ : z_G} (h : z_lay X N σ 0 z_SF z_RF) : σ 88 5 = 91 := by have h := h.2.2 90 _ rfl; rw [Nat.zero_add, Nat.zero_add] at h; exact h
theorem kr_F_88_6 {X : z_X} {N : Nat} {σ : z_G} (h : z_lay X N σ 0 z_SF z_RF) : σ 88 6 = 92 := by have h := h.2.2 91 _ rfl; rw [Nat.zero_add, Nat.zero_add] at h; exact h
theorem kr_F_88_7 {X : z_X} {N : Nat} {σ : z_G} (h : z_lay X N σ 0 z_SF z_RF) : σ 88 7 = 93 := by have h := h.2.2 92 _ rfl; rw [Nat.zero_add, Nat.zero_add] at h; exact h
theorem kr_F_0_15 {X : z_X} {N : Nat} {σ : z_G} (h : z_lay X N σ 0 z_SF z_RF) : σ 0 15 = 94 := by have h := h.2.2 93 _ rfl; rw [Nat.zero_add, Nat.zero_add] at h; exact h
theorem kr_F_94_7 {X : z_X} {N : Nat} {σ : z_G} (h : z_lay X N σ 0 z_SF z_RF) : σ 94 7 = 95 := by have h := h.2.2 94 _ rfl; rw [Nat.zero_add, Nat.zero_add] at h; exact h
theorem kr_F_0_16 {X : z_X} {N : Nat} {σ : z_G} (h : z_lay X N σ 0 z_SF z_RF) : σ 0 16 = 96 := by have h := h.2.2 95 _ rfl; rw [Nat.zero_add, Nat.zero_add] at h; exact h
theorem kr_F_96_7 {X : z_X} {N : Nat} {σ : z_G} (h : z_lay X N σ 0 z_SF z_RF) : σ 96 7 = 97 := by have h := h.2.2 96 _ rfl; rw [Nat.zero_add, Nat.zero_add] at h; exact h
theorem ks_M_0 {X : z_X} {N : Nat} {σ : z_G} (h : z_lay X N σ 0 z_SM z_RM) : z_sh X 0 = (0, 12) := by have h := h.1 0 _ rfl; rw [Nat.zero_add] at h; exact h
theorem kl_M_0 {X : z_X} {N : Nat} {σ : z_G} (h : z_lay X N σ 0 z_SM z_RM) : 0 < N := by have h := h.lt 0 rfl; rw [Nat.zero_add] at h; exact h
theorem ks_M_1 {X : z_X} {N : Nat} {σ : z_G} (h : z_lay X N σ 0 z_SM z_RM) : z_sh X 1 = (1, 3296) := by have h := h.1 1 _ rfl; rw [Nat.zero_add] at h; exact h
theorem kl_M_1 {X : z_X} {N : Nat} {σ : z_G} (h : z_lay X N σ 0 z_SM z_RM) : 1 < N := by have h := h.lt 1 rfl; rw [Nat.zero_add] at h; exact h
theorem ks_M_2 {X : z_X} {N : Nat} {σ : z_G} (h : z_lay X N σ 0 z_SM z_RM) : z_sh X 2 = (1, 4) := by have h := h.1 2 _ rfl; rw [Nat.zero_add] at h; exact h
theorem kl_M_2 {X : z_X} {N : Nat} {σ : z_G} (h : z_lay X N σ 0 z_SM z_RM) : 2 < N := by have h := h.lt 2 rfl; rw [Nat.zero_add] at h; exact h
theorem ks_M_3 {X : z_X} {N : Nat} {σ : z_G} (h : z_lay X N σ 0 z_SM z_RM) : z_sh X 3 = (1, 4) := by have h := h.1 3 _ rfl; rw [Nat.zero_add] at h; exact h
theorem kl_M_3 {X : z_X} {N : Nat} {σ : z_G} (h : z_lay X N σ 0 z_SM z_RM) : 3 < N := by have h := h.lt 3 rfl; rw [Nat.zero_add] at h; exact h
theorem ks_M_4 {X : z_X} {N : Nat} {σ : z_G} (h : z_lay X N σ 0 z_SM z_RM) : z_sh X 4 = (2, 240) := by have h := h.1 4 _ rfl; rw [Nat.zero_add] at h; exact h
theorem kl_M_4 {X : z_X} {N : Nat} {σ : z_G} (h : z_lay X N σ 0 z_SM z_RM) : 4 < N := by have h := h.lt 4 rfl; rw [Nat.zero_add] at h; exact h
theorem ks_M_5 {X : z_X} {N : Nat} {σ : z_G} (h : z_lay X N σ 0 z_SM z_RM) : z_sh X 5 = (4, 900) := by have h := h.1 5 _ rfl; rw [Nat.zero_add] at h; exact h
theorem kl_M_5 {X : z_X} {N : Nat} {σ : z_G} (h : z_lay X N σ 0 z_SM z_RM) : 5 < N := by have h := h.lt 5 rfl; rw [Nat.zero_add] at h; exact h
theorem ks_M_6 {X : z_X} {N : Nat} {σ : z_G} (h : z_lay X N σ 0 z_SM z_RM) : z_sh X 6 = (4, 900) := by have h := h.1 6 _ rfl; rw [Nat.zero_add] at h; exact h
theorem kl_M_6 {X : z_X} {N : Nat} {σ : z_G} (h : z_lay X N σ 0 z_SM z_RM) : 6 < N := by have h := h.lt 6 rfl; rw [Nat.zero_add] at h; exact h
theorem ks_M_7 {X : z_X} {N : Nat} {σ : z_G} (h : z_lay X N σ 0 z_SM z_RM) : z_sh X 7 = (1, 3) := by have h := h.1 7 _ rfl; rw [Nat.zero_add] at h; exact h
theorem kl_M_7 {X : z_X} {N : Nat} {σ : z_G} (h : z_lay X N σ 0 z_SM z_RM) : 7 < N := by have h := h.lt 7 rfl; rw [Nat.zero_add] at h; exact h
theorem ks_M_8 {X : z_X} {N : Nat} {σ : z_G} (h : z_lay X N σ 0 z_SM z_RM) : z_sh X 8 = (1, 12233) := by have h := h.1 8 _ rfl; rw [Nat.zero_add] at h; exact h
theorem kl_M_8 {X : z_X} {N : Nat} {σ : z_G} (h : z_lay X N σ 0 z_SM z_RM) : 8 < N := by have h := h.lt 8 rfl; rw [Nat.zero_add] at h; exact h
theorem ks_M_9 {X : z_X} {N : Nat} {σ : z_G} (h : z_lay X N σ 0 z_SM z_RM) : z_sh X 9 = (1, 12233) := by have h := h.1 9 _ rfl; rw [Nat.zero_add] at h; exact h
theorem kl_M_9 {X : z_X} {N : Nat} {σ : z_G} (h : z_lay X N σ 0 z_SM z_RM) : 9 < N := by have h := h.lt 9 rfl; rw [Nat.zero_add] at h; exact h
theorem ks_M_10 {X : z_X} {N : Nat} {σ : z_G} (h : z_lay X N σ 0 z_SM z_RM) : z_sh X 10 = (1, 40) := by have h := h.1 10 _ rfl; rw [Nat.zero_add] at h; exact h
theorem kl_M_10 {X : z_X} {N : Nat} {σ : z_G} (h : z_lay X N σ 0 z_SM z_RM) : 10 < N := by have h := h.lt 10 rfl; rw [Nat.zero_add] at h; exact h
theorem ks_M_11 {X : z_X} {N : Nat} {σ : z_G} (h : z_lay X N σ 0 z_SM z_RM) : z_sh X 11 = (1, 1024) := by have h := h.1 11 _ rfl; rw [Nat.zero_add] at h; exact h
theorem kl_M_11 {X : z_X} {N : Nat} {σ : z_G} (h : z_lay X N σ 0 z_SM z_RM) : 11 < N := by have h := h.lt 11 rfl; rw [Nat.zero_add] at h; exact h
theorem ks_M_12 {X : z_X} {N : Nat} {σ : z_G} (h : z_lay X N σ 0 z_SM z_RM) : z_sh X 12 = (1, 1024) := by have h := h.1 12 _ rfl; rw [Nat.zero_add] at h; exact h
theorem kl_M_12 {X : z_X} {N : Nat} {σ : z_G} (h : z_lay X N σ 0 z_SM z_RM) : 12 < N := by have h := h.lt 12 rfl; rw [Nat.zero_add] at h; exact h
theorem ks_M_13 {X : z_X} {N : Nat} {σ : z_G} (h : z_lay X N σ 0 z_SM z_RM) : z_sh X 13 = (1, 1024) := by have h := h.1 13 _ rfl; rw [Nat.zero_add] at h; exact h
theorem kl_M_13 {X : z_X} {N : Nat} {σ : z_G} (h : z_lay X N σ 0 z_SM z_RM) : 13 < N := by have h := h.lt 13 rfl; rw [Nat.zero_add] at h; exact h
theorem ks_M_14 {X : z_X} {N : Nat} {σ : z_G} (h : z_lay X N σ 0 z_SM z_RM) : z_sh X 14 = (2, 13) := by have h := h.1 14 _ rfl; rw [Nat.zero_add] at h; exact h
theorem kl_M_14 {X : z_X} {N : Nat} {σ : z_G} (h : z_lay X N σ 0 z_SM z_RM) : 14 < N := by have h := h.lt 14 rfl; rw [Nat.zero_add] at h; exact h
theorem ks_M_15 {X : z_X} {N : Nat} {σ : z_G} (h : z_lay X N σ 0 z_SM z_RM) : z_sh X 15 = (1, 60) := by have h := h.1 15 _ rfl; rw [Nat.zero_add] at h; exact h
theorem kl_M_15 {X : z_X} {N : Nat} {σ : z_G} (h : z_lay X N σ 0 z_SM z_RM) : 15 < N := by have h := h.lt 15 rfl; rw [Nat.zero_add] at h; exact h
theorem ks_M_16 {X : z_X} {N : Nat} {σ : z_G} (h : z_lay X N σ 0 z_SM z_RM) : z_sh X 16 = (1, 5) := by have h := h.1 16 _ rfl; rw [Nat.zero_add] at h; exact h
theorem kl_M_16 {X : z_X} {N : Nat} {σ : z_G} (h : z_lay X N σ 0 z_SM z_RM) : 16 < N := by have h := h.lt 16 rfl; rw [Nat.zero_add] at h; exact h
theorem ks_M_17 {X : z_X} {N : Nat} {σ : z_G} (h : z_lay X N σ 0 z_SM z_RM) : z_sh X 17 = (1, 5) := by have h := h.1 17 _ rfl; rw [Nat.zero_add] at h; exact h
theorem kl_M_17 {X : z_X} {N : Nat} {σ : z_G} (h : z_lay X N σ 0 z_SM z_RM) : 17 < N := by have h := h.lt 17 rfl; rw [Nat.zero_add] at h; exact h
theorem kr_M_0_0 {X : z_X} {N : Nat} {σ : z_G} (h : z_lay X N σ 0 z_SM z_RM) : σ 0 0 = 1 := by have h := h.2.2 0 _ rfl; rw [Nat.zero_add, Nat.zero_add] at h; exact h
theorem kr_M_0_4 {X : z_X} {N : Nat} {σ : z_G} (h : z_lay X N σ 0 z_SM z_RM) : σ 0 4 = 2 := by have h := h.2.2 1 _ rfl; rw [Nat.zero_add, Nat.zero_add] at h; exact h
theorem kr_M_0_5 {X : z_X} {N : Nat} {σ : z_G} (h : z_lay X N σ 0 z_SM z_RM) : σ 0 5 = 3 := by have h := h.2.2 2 _ rfl; rw [Nat.zero_add, Nat.zero_add] at h; exact h
theorem kr_M_0_6 {X : z_X} {N : Nat} {σ : z_G} (h : z_lay X N σ 0 z_SM z_RM) : σ 0 6 = 4 := by have h := h.2.2 3 _ rfl; rw [Nat.zero_add, Nat.zero_add] at h; exact h
theorem kr_M_0_7 {X : z_X} {N : Nat} {σ : z_G} (h : z_lay X N σ 0 z_SM z_RM) : σ 0 7 = 5 := by have h := h.2.2 4 _ rfl; rw [Nat.zero_add, Nat.zero_add] at h; exact h
theorem kr_M_0_8 {X : z_X} {N : Nat} {σ : z_G} (h : z_lay X N σ 0 z_SM z_RM) : σ 0 8 = 6 := by have h := h.2.2 5 _ rfl; rw [Nat.zero_add, Nat.zero_add] at h; exact h
theorem kr_M_0_19 {X : z_X} {N : Nat} {σ : z_G} (h : z_lay X N σ 0 z_SM z_RM) : σ 0 19 = 7 := by have h := h.2.2 6 _ rfl; rw [Nat.zero_add, Nat.zero_add] at h; exact h
theorem kr_M_0_22 {X : z_X} {N : Nat} {σ : z_G} (h : z_lay X N σ 0 z_SM z_RM) : σ 0 22 = 8 := by have h := h.2.2 7 _ rfl; rw [Nat.zero_add, Nat.zero_add] at h; exact h
theorem kr_M_0_23 {X : z_X} {N : Nat} {σ : z_G} (h : z_lay X N σ 0 z_SM z_RM) : σ 0 23 = 9 := by have h := h.2.2 8 _ rfl; rw [Nat.zero_add, Nat.zero_add] at h; exact h
theorem kr_M_0_26 {X : z_X} {N : Nat} {σ : z_G} (h : z_lay X N σ 0 z_SM z_RM) : σ 0 26 = 10 := by have h := h.2.2 9 _ rfl; rw [Nat.zero_add, Nat.zero_add] at h; exact h
theorem kr_M_0_31 {X : z_X} {N : Nat} {σ : z_G} (h : z_lay X N σ 0 z_SM z_RM) : σ 0 31 = 11 := by have h := h.2.2 10 _ rfl; rw [Nat.zero_add, Nat.zero_add] at h; exact h
theorem kr_M_0_32 {X : z_X} {N : Nat} {σ : z_G} (h : z_lay X N σ 0 z_SM z_RM) : σ 0 32 = 12 := by have h := h.2.2 11 _ rfl; rw [Nat.zero_add, Nat.zero_add] at h; exact h
theorem kr_M_0_33 {X : z_X} {N : Nat} {σ : z_G} (h : z_lay X N σ 0 z_SM z_RM) : σ 0 33 = 13 := by have h := h.2.2 12 _ rfl; rw [Nat.zero_add, Nat.zero_add] at h; exact h
theorem kr_M_0_34 {X : z_X} {N : Nat} {σ : z_G} (h : z_lay X N σ 0 z_SM z_RM) : σ 0 34 = 14 := by have h := h.2.2 13 _ rfl; rw [Nat.zero_add, Nat.zero_add] at h; exact h
theorem kr_M_0_37 {X : z_X} {N : Nat} {σ : z_G} (h : z_lay X N σ 0 z_SM z_RM) : σ 0 37 = 15 := by have h := h.2.2 14 _ rfl; rw [Nat.zero_add, Nat.zero_add] at h; exact h
theorem kr_M_0_38 {X : z_X} {N : Nat} {σ : z_G} (h : z_lay X N σ 0 z_SM z_RM) : σ 0 38 = 16 := by have h := h.2.2 15 _ rfl; rw [Nat.zero_add, Nat.zero_add] at h; exact h
theorem kr_M_0_39 {X : z_X} {N : Nat} {σ : z_G} (h : z_lay X N σ 0 z_SM z_RM) : σ 0 39 = 17 := by have h := h.2.2 16 _ rfl; rw [Nat.zero_add, Nat.zero_add] at h; exact h
theorem pf_Bd_order : parseFieldDescriptor (TX0 0).2.2.1 = some .int := by decide +kernel
theorem pf_Bd_odds : parseFieldDescriptor (TX0 1).2.2.1 = some .int := by decide +kernel
theorem pf_Ch_many : parseFieldDescriptor (TX1 1).2.2.1 = some .int := by decide +kernel
theorem pf_Ch_sum : parseFieldDescriptor (TX1 2).2.2.1 = some .int := by decide +kernel
theorem pf_Ch_top : parseFieldDescriptor (TX1 3).2.2.1 = some .int := by decide +kernel
theorem pf_Ch_bottom : parseFieldDescriptor (TX1 4).2.2.1 = some .int := by decide +kernel
theorem pf_Ch_lastTop : parseFieldDescriptor (TX1 5).2.2.1 = some .int := by decide +kernel
theorem pf_Ch_lastBottom : parseFieldDescriptor (TX1 6).2.2.1 = some .int := by decide +kernel
theorem pf_Pa_oddsTold : parseFieldDescriptor (TX2 2).2.2.1 = some .boolean := by decide +kernel
theorem pf_Pa_orderTold : parseFieldDescriptor (TX2 3).2.2.1 = some .boolean := by decide +kernel
theorem pf_Pa_hereTold : parseFieldDescriptor (TX2 4).2.2.1 = some .boolean := by decide +kernel
theorem pf_Pa_open : parseFieldDescriptor (TX2 6).2.2.1 = some .int := by decide +kernel
theorem pf_Pa_test : parseFieldDescriptor (TX2 7).2.2.1 = some .int := by decide +kernel
theorem pf_Pa_first : parseFieldDescriptor (TX2 8).2.2.1 = some .int := by decide +kernel
theorem pf_Pa_second : parseFieldDescriptor (TX2 9).2.2.1 = some .int := by decide +kernel
theorem pf_Pi_many : parseFieldDescriptor (TX3 3).2.2.1 = some .int := by decide +kernel
theorem pf_Pg_given : parseFieldDescriptor (TX4 0).2.2.1 = some .boolean := by decide +kernel
theorem pf_Pg_steps : parseFieldDescriptor (TX4 1).2.2.1 = some .int := by decide +kernel
theorem pf_Pg_lines : parseFieldDescriptor (TX4 2).2.2.1 = some .int := by decide +kernel
theorem pf_Rw_lowTop : parseFieldDescriptor (TX5 2).2.2.1 = some .int := by decide +kernel
theorem pf_Rw_lowBottom : parseFieldDescriptor (TX5 3).2.2.1 = some .int := by decide +kernel
theorem pf_Rw_highTop : parseFieldDescriptor (TX5 4).2.2.1 = some .int := by decide +kernel
theorem pf_Rw_highBottom : parseFieldDescriptor (TX5 5).2.2.1 = some .int := by decide +kernel
theorem pf_Sp_lowTop : parseFieldDescriptor (TX6 0).2.2.1 = some .int := by decide +kernel
theorem pf_Sp_lowBottom : parseFieldDescriptor (TX6 1).2.2.1 = some .int := by decide +kernel
theorem pf_Sp_highTop : parseFieldDescriptor (TX6 2).2.2.1 = some .int := by decide +kernel
theorem pf_Sp_highBottom : parseFieldDescriptor (TX6 3).2.2.1 = some .int := by decide +kernel
theorem pf_Sp_deep : parseFieldDescriptor (TX6 4).2.2.1 = some .int := by decide +kernel
theorem pf_Ta_taped : parseFieldDescriptor (TX7 1).2.2.1 = some .int := by decide +kernel
theorem pf_Ta_length : parseFieldDescriptor (TX7 2).2.2.1 = some .int := by decide +kernel
theorem pf_Ta_behind : parseFieldDescriptor (TX7 3).2.2.1 = some .int := by decide +kernel
theorem pf_Ta_kind : parseFieldDescriptor (TX7 4).2.2.1 = some .int := by decide +kernel
theorem pf_Ta_value : parseFieldDescriptor (TX7 5).2.2.1 = some .int := by decide +kernel
theorem pf_Ta_at : parseFieldDescriptor (TX7 6).2.2.1 = some .int := by decide +kernel
theorem pf_Ta_number : parseFieldDescriptor (TX7 7).2.2.1 = some .int := by decide +kernel
theorem pf_Ta_numberAt : parseFieldDescriptor (TX7 8).2.2.1 = some .int := by decide +kernel
theorem pf_Ta_faultKind : parseFieldDescriptor (TX7 9).2.2.1 = some .int := by decide +kernel
theorem pf_Ta_faultPlace : parseFieldDescriptor (TX7 10).2.2.1 = some .int := by decide +kernel
theorem pf_Vi_many : parseFieldDescriptor (TX9 1).2.2.1 = some .int := by decide +kernel
theorem pf_Wk_done : parseFieldDescriptor (TX10 0).2.2.1 = some .int := by decide +kernel
theorem pf_Wk_missed : parseFieldDescriptor (TX10 1).2.2.1 = some .int := by decide +kernel
theorem pf_Wk_moved : parseFieldDescriptor (TX10 2).2.2.1 = some .int := by decide +kernel
theorem pf_Wk_pinned : parseFieldDescriptor (TX10 3).2.2.1 = some .int := by decide +kernel
theorem pf_Wk_lifted : parseFieldDescriptor (TX10 4).2.2.1 = some .int := by decide +kernel
theorem pf_Wk_cutShort : parseFieldDescriptor (TX10 5).2.2.1 = some .boolean := by decide +kernel
theorem pf_Wk_drawn : parseFieldDescriptor (TX10 6).2.2.1 = some .int := by decide +kernel
theorem pf_F_latestStatus : parseFieldDescriptor (TX11 0).2.2.1 = some .int := by decide +kernel
theorem pf_F_toldTop : parseFieldDescriptor (TX11 1).2.2.1 = some .long := by decide +kernel
theorem pf_F_toldBottom : parseFieldDescriptor (TX11 2).2.2.1 = some .long := by decide +kernel
theorem pf_F_faultKind : parseFieldDescriptor (TX11 5).2.2.1 = some .int := by decide +kernel
theorem pf_F_faultPlace : parseFieldDescriptor (TX11 6).2.2.1 = some .int := by decide +kernel
theorem pf_F_marked : parseFieldDescriptor (TX11 14).2.2.1 = some .int := by decide +kernel
theorem pf_F_everLived : parseFieldDescriptor (TX11 17).2.2.1 = some .boolean := by decide +kernel
theorem pf_M_status : parseFieldDescriptor (TX12 1).2.2.1 = some .int := by decide +kernel
theorem pf_M_top : parseFieldDescriptor (TX12 2).2.2.1 = some .long := by decide +kernel
theorem pf_M_bottom : parseFieldDescriptor (TX12 3).2.2.1 = some .long := by decide +kernel
theorem pf_M_taped : parseFieldDescriptor (TX12 9).2.2.1 = some .int := by decide +kernel
theorem pf_M_size : parseFieldDescriptor (TX12 10).2.2.1 = some .int := by decide +kernel
theorem pf_M_token : parseFieldDescriptor (TX12 11).2.2.1 = some .int := by decide +kernel
theorem pf_M_from : parseFieldDescriptor (TX12 12).2.2.1 = some .int := by decide +kernel
theorem pf_M_end : parseFieldDescriptor (TX12 13).2.2.1 = some .int := by decide +kernel
theorem pf_M_value : parseFieldDescriptor (TX12 14).2.2.1 = some .int := by decide +kernel
theorem pf_M_faultKind : parseFieldDescriptor (TX12 15).2.2.1 = some .int := by decide +kernel
theorem pf_M_faultPlace : parseFieldDescriptor (TX12 16).2.2.1 = some .int := by decide +kernel
theorem pf_M_faults : parseFieldDescriptor (TX12 17).2.2.1 = some .int := by decide +kernel
theorem pf_M_toldParts : parseFieldDescriptor (TX12 18).2.2.1 = some .int := by decide +kernel
theorem pf_M_depth : parseFieldDescriptor (TX12 20).2.2.1 = some .int := by decide +kernel
theorem pf_M_counted : parseFieldDescriptor (TX12 21).2.2.1 = some .int := by decide +kernel
theorem pf_M_many : parseFieldDescriptor (TX12 24).2.2.1 = some .int := by decide +kernel
theorem pf_M_laidOrder : parseFieldDescriptor (TX12 25).2.2.1 = some .int := by decide +kernel
theorem pf_M_termMany : parseFieldDescriptor (TX12 27).2.2.1 = some .int := by decide +kernel
theorem pf_M_foundTop : parseFieldDescriptor (TX12 28).2.2.1 = some .int := by decide +kernel
theorem pf_M_foundBottom : parseFieldDescriptor (TX12 29).2.2.1 = some .int := by decide +kernel
theorem pf_M_left1 : parseFieldDescriptor (TX12 30).2.2.1 = some .int := by decide +kernel
theorem pf_M_drawn : parseFieldDescriptor (TX12 35).2.2.1 = some .int := by decide +kernel
theorem pf_M_ranSteps : parseFieldDescriptor (TX12 36).2.2.1 = some .int := by decide +kernel
theorem pf_M_isTold : parseFieldDescriptor (TX12 40).2.2.1 = some .boolean := by decide +kernel
theorem pf_M_marks : parseFieldDescriptor (TX12 41).2.2.1 = some .int := by decide +kernel
theorem kc_F_251 : Cond.constantLong "FareyRank" 251 (Int64.ofInt 9007199254740992) ∈ z_tb := by rw [show Int64.ofInt 9007199254740992 = (9007199254740992 : Int64) from by decide]; exact z_in4 (List.mem_of_getElem? (i := 212) rfl) rfl
theorem kc_F_409 : Cond.constantLong "FareyRank" 409 (Int64.ofInt 16) ∈ z_tb := by rw [show Int64.ofInt 16 = (16 : Int64) from by decide]; exact z_in6 (List.mem_of_getElem? (i := 15) rfl) rfl
theorem kc_Wk_46 : Cond.constant "FareyRank$Walk" 46 (Int32.ofInt 100000) ∈ z_tb := by rw [show Int32.ofInt 100000 = (100000 : Int32) from by decide]; exact z_in6 (List.mem_of_getElem? (i := 28) rfl) rfl
theorem kc_Wk_157 : Cond.constant "FareyRank$Walk" 157 (Int32.ofInt 65536) ∈ z_tb := by rw [show Int32.ofInt 65536 = (65536 : Int32) from by decide]; exact z_in6 (List.mem_of_getElem? (i := 85) rfl) rfl
theorem kc_M_109 : Cond.constantLong "FareyRankModel" 109 (Int64.ofInt (-1)) ∈ z_tb := by rw [show Int64.ofInt (-1) = ((-1) : Int64) from by decide]; exact z_in7 (List.mem_of_getElem? (i := 41) rfl) rfl
theorem kc_M_141 : Cond.constant "FareyRankModel" 141 (Int32.ofInt 100000) ∈ z_tb := by rw [show Int32.ofInt 100000 = (100000 : Int32) from by decide]; exact z_in7 (List.mem_of_getElem? (i := 80) rfl) rfl
theorem kc_M_263 : Cond.constantLong "FareyRankModel" 263 (Int64.ofInt 200) ∈ z_tb := by rw [show Int64.ofInt 200 = (200 : Int64) from by decide]; exact z_in7 (List.mem_of_getElem? (i := 217) rfl) rfl
theorem kc_M_281 : Cond.constantLong "FareyRankModel" 281 (Int64.ofInt 9007199254740992) ∈ z_tb := by rw [show Int64.ofInt 9007199254740992 = (9007199254740992 : Int64) from by decide]; exact z_in8 (List.mem_of_getElem? (i := 16) rfl) rfl
theorem kc_M_283 : Cond.constantLong "FareyRankModel" 283 (Int64.ofInt (-60)) ∈ z_tb := by rw [show Int64.ofInt (-60) = ((-60) : Int64) from by decide]; exact z_in8 (List.mem_of_getElem? (i := 17) rfl) rfl
theorem kc_M_309 : Cond.constantLong "FareyRankModel" 309 (Int64.ofInt 20) ∈ z_tb := by rw [show Int64.ofInt 20 = (20 : Int64) from by decide]; exact z_in8 (List.mem_of_getElem? (i := 72) rfl) rfl
theorem kc_M_323 : Cond.constantLong "FareyRankModel" 323 (Int64.ofInt 9999) ∈ z_tb := by rw [show Int64.ofInt 9999 = (9999 : Int64) from by decide]; exact z_in8 (List.mem_of_getElem? (i := 98) rfl) rfl
theorem kc_M_344 : Cond.constantLong "FareyRankModel" 344 (Int64.ofInt 16) ∈ z_tb := by rw [show Int64.ofInt 16 = (16 : Int64) from by decide]; exact z_in8 (List.mem_of_getElem? (i := 151) rfl) rfl
theorem kc_M_355 : Cond.constantLong "FareyRankModel" 355 (Int64.ofInt 99) ∈ z_tb := by rw [show Int64.ofInt 99 = (99 : Int64) from by decide]; exact z_in8 (List.mem_of_getElem? (i := 156) rfl) rfl
theorem kc_M_381 : Cond.constantLong "FareyRankModel" 381 (Int64.ofInt 10) ∈ z_tb := by rw [show Int64.ofInt 10 = (10 : Int64) from by decide]; exact z_in8 (List.mem_of_getElem? (i := 233) rfl) rfl
theorem kc_M_390 : Cond.constantLong "FareyRankModel" 390 (Int64.ofInt 12) ∈ z_tb := by rw [show Int64.ofInt 12 = (12 : Int64) from by decide]; exact z_in9 (List.mem_of_getElem? (i := 6) rfl) rfl
theorem kc_M_395 : Cond.constant "FareyRankModel" 395 (Int32.ofInt 65536) ∈ z_tb := by rw [show Int32.ofInt 65536 = (65536 : Int32) from by decide]; exact z_in9 (List.mem_of_getElem? (i := 39) rfl) rfl
theorem kc_Law_32 : Cond.constantLong "FareyRankLaw" 32 (Int64.ofInt 4294967295) ∈ z_tb := by rw [show Int64.ofInt 4294967295 = (4294967295 : Int64) from by decide]; exact z_in9 (List.mem_of_getElem? (i := 68) rfl) rfl
theorem kac_Tr_36 : Cond.methodLink "FareyRank$Trays" 36 arraycopyName ∈ z_tb := z_in3 (List.mem_of_getElem? (i := 86) rfl) rfl
theorem kac_Pi_21 : Cond.methodLink "FareyRank$Pins" 21 arraycopyName ∈ z_tb := z_in4 (List.mem_of_getElem? (i := 47) rfl) rfl
theorem kac_Vi_15 : Cond.methodLink "FareyRank$Visits" 15 arraycopyName ∈ z_tb := z_in4 (List.mem_of_getElem? (i := 52) rfl) rfl
theorem kac_Pg_36 : Cond.methodLink "FareyRank$Program" 36 arraycopyName ∈ z_tb := z_in4 (List.mem_of_getElem? (i := 57) rfl) rfl
theorem kas : Cond.static arraycopyName ∈ z_tb := z_in3 (List.mem_of_getElem? (i := 87) rfl) rfl
theorem kan : Cond.native arraycopyName ∈ z_tb := z_in3 (List.mem_of_getElem? (i := 88) rfl) rfl
theorem kai : Cond.initialized "java/lang/System" ∈ z_tb := z_in1 (List.mem_of_getElem? (i := 14) rfl) rfl
theorem kmm_min_Ta_19 : Cond.methodLink "FareyRank$Tape" 19 Lib.Math.min.name ∈ z_tb := z_in3 (List.mem_of_getElem? (i := 110) rfl) rfl
theorem kms_min : Cond.static Lib.Math.min.name ∈ z_tb := z_in3 (List.mem_of_getElem? (i := 111) rfl) rfl
theorem kmc_min : Cond.code Lib.Math.min.name Lib.Math.min.code 2 (some .int) ∈ z_tb := z_in3 (List.mem_of_getElem? (i := 112) rfl) rfl
theorem kmm_max_Ta_25 : Cond.methodLink "FareyRank$Tape" 25 Lib.Math.max.name ∈ z_tb := z_in3 (List.mem_of_getElem? (i := 113) rfl) rfl
theorem kms_max : Cond.static Lib.Math.max.name ∈ z_tb := z_in3 (List.mem_of_getElem? (i := 114) rfl) rfl
theorem kmc_max : Cond.code Lib.Math.max.name Lib.Math.max.code 2 (some .int) ∈ z_tb := z_in3 (List.mem_of_getElem? (i := 115) rfl) rfl
theorem kmm_max_Pa_167 : Cond.methodLink "FareyRank$Parser" 167 Lib.Math.max.name ∈ z_tb := z_in3 (List.mem_of_getElem? (i := 230) rfl) rfl
theorem kmm_min_Rw_22 : Cond.methodLink "FareyRank$Row" 22 Lib.Math.min.name ∈ z_tb := z_in4 (List.mem_of_getElem? (i := 174) rfl) rfl
theorem kmm_max_F_323 : Cond.methodLink "FareyRank" 323 Lib.Math.max.name ∈ z_tb := z_in5 (List.mem_of_getElem? (i := 78) rfl) rfl
theorem kmm_min_F_402 : Cond.methodLink "FareyRank" 402 Lib.Math.min.name ∈ z_tb := z_in6 (List.mem_of_getElem? (i := 3) rfl) rfl
theorem kmm_min_M_142 : Cond.methodLink "FareyRankModel" 142 Lib.Math.min.name ∈ z_tb := z_in7 (List.mem_of_getElem? (i := 81) rfl) rfl
theorem kmm_abs_M_285 : Cond.methodLink "FareyRankModel" 285 Lib.Math.abs.name ∈ z_tb := z_in8 (List.mem_of_getElem? (i := 46) rfl) rfl
theorem kms_abs : Cond.static Lib.Math.abs.name ∈ z_tb := z_in8 (List.mem_of_getElem? (i := 47) rfl) rfl
theorem kmc_abs : Cond.code Lib.Math.abs.name Lib.Math.abs.code 1 (some .int) ∈ z_tb := z_in8 (List.mem_of_getElem? (i := 48) rfl) rfl
theorem kmm_max_M_317 : Cond.methodLink "FareyRankModel" 317 Lib.Math.max.name ∈ z_tb := z_in8 (List.mem_of_getElem? (i := 89) rfl) rfl
theorem kmi : Cond.initialized "java/lang/Math" ∈ z_tb := z_in1 (List.mem_of_getElem? (i := 15) rfl) rfl
theorem ky_Bd_1 {X : z_X} {N : Nat} {σ : z_G} {o : Nat} (h : z_lay X N σ o z_SBd z_RBd) : z_lay X N σ (o + 1) z_SSp z_RSp := by have h := h.sub (SL' := z_SSp) (RL' := z_RSp) 1 (by decide) rfl (by decide); exact h
theorem ky_F_12 {X : z_X} {N : Nat} {σ : z_G} (h : z_lay X N σ 0 z_SF z_RF) : z_lay X N σ 12 z_SCh z_RCh := by have h := h.sub (SL' := z_SCh) (RL' := z_RCh) 12 (by decide) rfl (by decide); rw [Nat.zero_add] at h; exact h
theorem ky_F_18 {X : z_X} {N : Nat} {σ : z_G} (h : z_lay X N σ 0 z_SF z_RF) : z_lay X N σ 18 z_SCh z_RCh := by have h := h.sub (SL' := z_SCh) (RL' := z_RCh) 18 (by decide) rfl (by decide); rw [Nat.zero_add] at h; exact h
theorem ky_F_20 {X : z_X} {N : Nat} {σ : z_G} (h : z_lay X N σ 0 z_SF z_RF) : z_lay X N σ 20 z_SCh z_RCh := by have h := h.sub (SL' := z_SCh) (RL' := z_RCh) 20 (by decide) rfl (by decide); rw [Nat.zero_add] at h; exact h
theorem ky_F_22 {X : z_X} {N : Nat} {σ : z_G} (h : z_lay X N σ 0 z_SF z_RF) : z_lay X N σ 22 z_SSp z_RSp := by have h := h.sub (SL' := z_SSp) (RL' := z_RSp) 22 (by decide) rfl (by decide); rw [Nat.zero_add] at h; exact h
theorem ky_F_24 {X : z_X} {N : Nat} {σ : z_G} (h : z_lay X N σ 0 z_SF z_RF) : z_lay X N σ 24 z_SSp z_RSp := by have h := h.sub (SL' := z_SSp) (RL' := z_RSp) 24 (by decide) rfl (by decide); rw [Nat.zero_add] at h; exact h
