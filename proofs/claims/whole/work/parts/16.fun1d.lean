def cpm (mem : Nat → Int32) (t o : Int32) : Nat → (Nat → Int32) → Nat → Int32
  | 0, d => d
  | n + 1, d => cpm mem t o n (upd d ((8 * t) + (nI (7 - n))).toNatClampNeg (mem ((8 * o) + (nI (7 - n))).toNatClampNeg))
def cpd (o : Int32) : Nat → (Nat → Int32) → Nat → Int32
  | 0, d => d
  | n + 1, d => cpd o n (upd d ((8 * o) + (nI (7 - n))).toNatClampNeg (d ((96 + (8 * o)) + (nI (7 - n))).toNatClampNeg))
def ldm (dsk : Nat → Int32) : Nat → (Nat → Int32) → Nat → Int32
  | 0, f => f
  | n + 1, f => ldm dsk n (upd f (nI (95 - n)).toNatClampNeg (dsk (nI (95 - n)).toNatClampNeg))
def rst : Nat → (Nat → Int32) → Nat → Int32
  | 0, f => f
  | n + 1, f => rst n (upd f (nI (11 - n)).toNatClampNeg (vp_nar .boolean 0))
def F1_cp (x n : Int32) : Nat → Int32 → S0 → Int32 × S0
  | 0, _, u => (2 * n + 2, u.1, u.2.1, rst 12 u.2.2.1, u.2.2.2.1, u.2.2.2.2.1, u.2.2.2.2.2.1, u.2.2.2.2.2.2.1, u.2.2.2.2.2.2.2)
  | f + 1, k, u => (match F1_may u.1 u.2.1 u.2.2.1 u.2.2.2.1 u.2.2.2.2.1 u.2.2.2.2.2.1 u.2.2.2.2.2.2.1 u.2.2.2.2.2.2.2 with
    | (r, mem, dsk, sto, dn, en, pw, wr, cm) => if r = 0 then ((-2), mem, dsk, sto, dn, en, pw, wr, cm) else
      (if k = n then F1_cp x n f (k + 1) (mem, upd dsk (192 : Int32).toNatClampNeg x, sto, dn, en, pw, wr, cm + 1) else
       (if k ≤ 2 * n then
         (if n ≤ k then F1_cp x n f (k + 1) (mem, cpm mem (f1_member mem dsk sto dn en pw wr cm x (k - n - 1)) (f1_member mem dsk sto dn en pw wr cm x (k - n - 1)) 8 dsk, sto, dn, en, pw, wr, cm)
          else F1_cp x n f (k + 1) (mem, cpm mem (12 + f1_member mem dsk sto dn en pw wr cm x k) (f1_member mem dsk sto dn en pw wr cm x k) 8 dsk, sto, dn, en, pw, wr, cm))
        else F1_cp x n f (k + 1) (mem, upd dsk (192 : Int32).toNatClampNeg 0, sto, dn, en, pw, wr, cm))))
def F1_checkpoint (mem dsk sto : Nat → Int32) (dn en pw wr cm : Int32) : Int32 × S0 := (if dn = 0 then (if (f1_inSet mem dsk sto dn en pw wr cm (f1_dirty mem dsk sto dn en pw wr cm)) = 0 then (0, mem, dsk, sto, dn, en, pw, wr, cm) else F1_cp (f1_dirty mem dsk sto dn en pw wr cm) (f1_inSet mem dsk sto dn en pw wr cm (f1_dirty mem dsk sto dn en pw wr cm)) (2 * (f1_inSet mem dsk sto dn en pw wr cm (f1_dirty mem dsk sto dn en pw wr cm)).toNatClampNeg + 2) 0 (mem, dsk, sto, dn, en, pw, wr, cm)) else ((-1), mem, dsk, sto, dn, en, pw, wr, cm))
def F1_st (x n : Int32) : Nat → Int32 → S0 → Int32 × S0
  | 0, _, u => (n, ldm u.2.1 96 u.1, u.2.1, rst 12 u.2.2.1, 0, u.2.2.2.2.1, u.2.2.2.2.2.1, u.2.2.2.2.2.2.1, u.2.2.2.2.2.2.2)
  | f + 1, k, u => (match F1_may u.1 u.2.1 u.2.2.1 u.2.2.2.1 u.2.2.2.2.1 u.2.2.2.2.2.1 u.2.2.2.2.2.2.1 u.2.2.2.2.2.2.2 with
    | (r, mem, dsk, sto, dn, en, pw, wr, cm) => if r = 0 then ((-3), mem, dsk, sto, dn, en, pw, wr, cm) else
      (if k = n - 1 then F1_st x n f (k + 1) (mem, upd dsk (192 : Int32).toNatClampNeg 0, sto, dn, en, pw, wr, cm) else
       F1_st x n f (k + 1) (mem, cpd (f1_member mem dsk sto dn en pw wr cm x k) 8 dsk, sto, dn, en, pw, wr, cm)))
def z1_start_34 (x0 : Int32) : Int32 := (if x0 = (-1) then 1 else 0)
def z1_start_66 (mem : Nat → Int32) (dsk : Nat → Int32) (sto : Nat → Int32) (dn : Int32) (wr : Int32) (cm : Int32) (x0 : Int32) : Int32 := (if (dsk (192 : Int32).toNatClampNeg) = 0 then 0 else ((f1_inSet mem dsk sto dn (z1_start_34 x0) x0 wr cm (dsk (192 : Int32).toNatClampNeg)) + 1))
def F1_start (mem dsk sto : Nat → Int32) (dn en pw wr cm : Int32) (x0 : Int32) : Int32 × S0 := (if dn = 0 then ((-1), mem, dsk, sto, dn, en, pw, wr, cm) else (if x0 < (-1) then ((-2), mem, dsk, sto, dn, en, pw, wr, cm) else (if x0 ≤ 63 then F1_st (dsk (192 : Int32).toNatClampNeg) (z1_start_66 mem dsk sto dn wr cm x0) ((z1_start_66 mem dsk sto dn wr cm x0).toNatClampNeg) 0 (mem, dsk, sto, dn, (z1_start_34 x0), x0, wr, cm) else ((-2), mem, dsk, sto, dn, en, pw, wr, cm))))
