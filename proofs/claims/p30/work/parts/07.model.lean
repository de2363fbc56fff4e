/-! THE MODEL of the class, as pure functions alone: no method of it runs in this claim; it is a picture of the town as one row of numbers -/
def f_X10_in (p0 : Int32) (p1 : Int32) (p2 : Int32) (σ : z_S) : Option Int32 :=
  if p0 < p1 then
  (some ((0 : Int32)))
  else
  (if p2 < p0 then
  (some ((0 : Int32)))
  else
  (some ((1 : Int32))))
def lb_X10_copies_3 (n0 : Nat) (n1 : Nat) (p1 : Int32) (p3 : Int32) (k1 : Int32 → z_S → Option z_S) (x2 : Int32) (σ3 : z_S) : Option z_S :=
  if (537 : Int32) ≤ x2 then
  (some σ3)
  else
  (z_cki (p1 + x2) n0 <|
  z_cki (p3 + x2) n1 <|
  z_let (z_u σ3 1 (p3 + x2).toNatClampNeg (σ3 0 (p1 + x2).toNatClampNeg)) fun σ7 =>
  z_let (x2 + (1 : Int32)) fun x8 =>
  k1 x8 σ7)
def f_X10_copies (n0 : Nat) (n1 : Nat) (p1 : Int32) (p3 : Int32) (σ : z_S) : Option z_S :=
  z_lp2 (lb_X10_copies_3 n0 n1 p1 p3) z_Fu (0 : Int32) σ
def f_X10_notes (σ : z_S) : Option z_S :=
  z_b1 (f_X10_copies 537 537 (0 : Int32) (0 : Int32) (fun k => σ (zi2 1 3 k))) fun σ2 =>
  z_let (z_m σ (zk2 1 3) 2 σ2) fun σ3 =>
  some σ3
def lb_X10_ends_14 (j3 : z_S → Option (Int32 × z_S)) (k9 : Int32 → z_S → Option (Int32 × z_S)) (x10 : Int32) (σ11 : z_S) : Option (Int32 × z_S) :=
  if (1611 : Int32) ≤ x10 then
  (z_let (z_u σ11 0 2 ((3 : Int32))) fun σ13 =>
  j3 σ13)
  else
  (z_cki (x10 + (537 : Int32)) 2148 <|
  z_cki x10 2148 <|
  z_let (z_u σ11 2 x10.toNatClampNeg (σ11 2 (x10 + (537 : Int32)).toNatClampNeg)) fun σ16 =>
  z_let (x10 + (1 : Int32)) fun x17 =>
  k9 x17 σ16)
def f_X10_ends (p1 : Int32) (σ : z_S) : Option (Int32 × z_S) :=
  if p1 < (0 : Int32) then
  (some (p1, σ))
  else
  (z_let (fun (σ2 : z_S) => z_b1 (f_X10_copies 537 2148 (0 : Int32) ((σ2 0 2) * (537 : Int32)) (fun k => σ2 (zi2 3 2 k))) fun σ5 =>
  z_let (z_m σ2 (zk2 3 2) 2 σ5) fun σ6 =>
  z_let (z_u σ6 0 2 ((σ6 0 2) + (1 : Int32))) fun σ7 =>
  some (p1, σ7)) fun j3 =>
  if (σ 0 2) = (4 : Int32) then
  (z_lp2 (lb_X10_ends_14 j3) z_Fu (0 : Int32) σ)
  else
  (j3 σ))
def f_X10_isCorner (p1 : Int32) (σ : z_S) : Option Int32 :=
  z_cki (0 : Int32) 537 <|
  z_b1 (f_X10_in p1 (0 : Int32) ((σ 1 (0 : Int32).toNatClampNeg) - (1 : Int32)) σ) fun r3 =>
  z_ckz (r3) <|
  some (r3)
def f_X10_isHouse (p1 : Int32) (σ : z_S) : Option Int32 :=
  z_cki (1 : Int32) 537 <|
  z_b1 (f_X10_in p1 (0 : Int32) ((σ 1 (1 : Int32).toNatClampNeg) - (1 : Int32)) σ) fun r3 =>
  z_ckz (r3) <|
  some (r3)
def f_X10_isCarrier (p1 : Int32) (σ : z_S) : Option Int32 :=
  z_cki (2 : Int32) 537 <|
  z_b1 (f_X10_in p1 (0 : Int32) ((σ 1 (2 : Int32).toNatClampNeg) - (1 : Int32)) σ) fun r3 =>
  z_ckz (r3) <|
  some (r3)
def f_X10_ofCorner (p1 : Int32) (p2 : Int32) (σ : z_S) : Option Int32 :=
  z_cki (((10 : Int32) + ((4 : Int32) * p1)) + p2) 537 <|
  some (σ 1 (((10 : Int32) + ((4 : Int32) * p1)) + p2).toNatClampNeg)
def f_X10_of (p1 : Int32) (p2 : Int32) (σ : z_S) : Option Int32 :=
  z_cki (((90 : Int32) + ((14 : Int32) * p1)) + p2) 537 <|
  some (σ 1 (((90 : Int32) + ((14 : Int32) * p1)) + p2).toNatClampNeg)
def f_X10_lays (p1 : Int32) (p2 : Int32) (p3 : Int32) (σ : z_S) : Option z_S :=
  z_cki (((90 : Int32) + ((14 : Int32) * p1)) + p2) 537 <|
  z_let (z_u σ 1 (((90 : Int32) + ((14 : Int32) * p1)) + p2).toNatClampNeg (p3)) fun σ2 =>
  some σ2
def f_X10_ofCarrier (p1 : Int32) (p2 : Int32) (σ : z_S) : Option Int32 :=
  z_cki (((426 : Int32) + ((7 : Int32) * p1)) + p2) 537 <|
  some (σ 1 (((426 : Int32) + ((7 : Int32) * p1)) + p2).toNatClampNeg)
def f_X10_addsCarrier (p1 : Int32) (p2 : Int32) (p3 : Int32) (σ : z_S) : Option z_S :=
  z_cki (((426 : Int32) + ((7 : Int32) * p1)) + p2) 537 <|
  z_cki (((426 : Int32) + ((7 : Int32) * p1)) + p2) 537 <|
  z_let (z_u σ 1 (((426 : Int32) + ((7 : Int32) * p1)) + p2).toNatClampNeg ((σ 1 (((426 : Int32) + ((7 : Int32) * p1)) + p2).toNatClampNeg) + p3)) fun σ3 =>
  some σ3
def lb_X10_isBeyond_2 (p2 : Int32) (σ : z_S) (k1 : Int32 → Option Int32) (x2 : Int32) : Option Int32 :=
  if x2 ≤ p2 then
  (if x2 = p2 then
  (some ((1 : Int32)))
  else
  (some ((0 : Int32))))
  else
  (z_b1 (f_X10_ofCorner x2 (0 : Int32) σ) fun r6 =>
  k1 r6)
def f_X10_isBeyond (p1 : Int32) (p2 : Int32) (σ : z_S) : Option Int32 :=
  z_lp1 (lb_X10_isBeyond_2 p2 σ) z_Fu p1
def lb_X10_cartsCome_4 (σ : z_S) (k1 : Int32 → Int32 → Option Int32) (x2 : Int32) (x3 : Int32) : Option Int32 :=
  if x3 ≤ (0 : Int32) then
  (z_ckz (x2) <|
  some (x2))
  else
  (z_let (fun (y6 : Int32) => z_b1 (f_X10_ofCorner x3 (0 : Int32) σ) fun r9 =>
  k1 y6 r9) fun j7 =>
  z_let (fun (_ : Unit) => j7 (0 : Int32)) fun j10 =>
  if x2 = (0 : Int32) then
  (j10 ())
  else
  (z_b1 (f_X10_ofCorner x3 (3 : Int32) σ) fun r13 =>
  if r13 = (0 : Int32) then
  (j7 (1 : Int32))
  else
  (j10 ())))
def f_X10_cartsCome (p1 : Int32) (σ : z_S) : Option Int32 :=
  z_lp2 (lb_X10_cartsCome_4 σ) z_Fu (1 : Int32) p1
def lb_X10_farOf_4 (σ : z_S) (k1 : Int32 → Int32 → Option Int32) (x2 : Int32) (x3 : Int32) : Option Int32 :=
  if x3 ≤ (0 : Int32) then
  (some (x2))
  else
  (z_b1 (f_X10_ofCorner x3 (1 : Int32) σ) fun r6 =>
  z_let (x2 + r6) fun x7 =>
  z_b1 (f_X10_ofCorner x3 (0 : Int32) σ) fun r9 =>
  k1 x7 r9)
def f_X10_farOf (p1 : Int32) (σ : z_S) : Option Int32 :=
  z_lp2 (lb_X10_farOf_4 σ) z_Fu (0 : Int32) p1
def lb_X10_laysRow_91 (k8 : Int32 → Int32 → z_S → Option z_S) (x10 : Int32) (k14 : Int32 → Int32 → z_S → Option z_S) (x15 : Int32) (x16 : Int32) (σ17 : z_S) : Option z_S :=
  z_cki (1 : Int32) 537 <|
  if (σ17 1 (1 : Int32).toNatClampNeg) ≤ x16 then
  (z_let (x10 + (1 : Int32)) fun x20 =>
  k8 x15 x20 σ17)
  else
  (z_b1 (f_X10_of x16 (0 : Int32) σ17) fun r22 =>
  z_cki x10 20 <|
  z_let (fun (y24 : Int32) (σ25 : z_S) => z_let (x16 + (1 : Int32)) fun x27 =>
  k14 y24 x27 σ25) fun j26 =>
  if r22 = (σ17 6 x10.toNatClampNeg) then
  (z_cki x15 24 <|
  z_let (z_u σ17 7 x15.toNatClampNeg (x16)) fun σ30 =>
  z_let (x15 + (1 : Int32)) fun x31 =>
  j26 x31 σ30)
  else
  (j26 x15 σ17))
def lb_X10_laysRow_79 (k8 : Int32 → Int32 → z_S → Option z_S) (x9 : Int32) (x10 : Int32) (σ11 : z_S) : Option z_S :=
  z_cki (0 : Int32) 537 <|
  if (σ11 1 (0 : Int32).toNatClampNeg) ≤ x10 then
  (some σ11)
  else
  (z_lp3 (lb_X10_laysRow_91 k8 x10) z_Fu x9 (0 : Int32) σ11)
def lb_X10_laysRow_21 (k3 : Int32 → z_S → Option z_S) (x4 : Int32) (k32 : Int32 → z_S → Option z_S) (x33 : Int32) (σ34 : z_S) : Option z_S :=
  z_cki (x33 - (1 : Int32)) 20 <|
  z_b1 (f_X10_ofCorner x4 (0 : Int32) σ34) fun r37 =>
  z_b1 (f_X10_isBeyond (σ34 6 (x33 - (1 : Int32)).toNatClampNeg) r37 σ34) fun r39 =>
  if r39 = (0 : Int32) then
  (z_cki (x33 - (1 : Int32)) 20 <|
  z_cki x33 20 <|
  z_let (z_u σ34 6 x33.toNatClampNeg (σ34 6 (x33 - (1 : Int32)).toNatClampNeg)) fun σ46 =>
  z_let (x33 + (-1 : Int32)) fun x47 =>
  k32 x47 σ46)
  else
  (z_cki x33 20 <|
  z_let (z_u σ34 6 x33.toNatClampNeg (x4)) fun σ42 =>
  z_let (x4 + (1 : Int32)) fun x43 =>
  k3 x43 σ42)
def lb_X10_laysRow_9 (k3 : Int32 → z_S → Option z_S) (x4 : Int32) (σ5 : z_S) : Option z_S :=
  z_cki (0 : Int32) 537 <|
  if (σ5 1 (0 : Int32).toNatClampNeg) ≤ x4 then
  (z_lp3 lb_X10_laysRow_79 z_Fu (0 : Int32) (0 : Int32) σ5)
  else
  (z_lp2 (lb_X10_laysRow_21 k3 x4) z_Fu x4 σ5)
def f_X10_laysRow (σ : z_S) : Option z_S :=
  z_cki (0 : Int32) 20 <|
  z_let (z_u σ 6 (0 : Int32).toNatClampNeg ((0 : Int32))) fun σ2 =>
  z_lp2 lb_X10_laysRow_9 z_Fu (1 : Int32) σ2
def f_X10_corner (p1 : Int32) (p2 : Int32) (p3 : Int32) (p4 : Int32) (σ : z_S) : Option (Int32 × z_S) :=
  z_b1 (f_X10_isCorner p1 σ) fun r2 =>
  if r2 = (0 : Int32) then
  (some ((-1 : Int32), σ))
  else
  (z_b1 (f_X10_in p2 (1 : Int32) (50 : Int32) σ) fun r5 =>
  if r5 = (0 : Int32) then
  (some ((-1 : Int32), σ))
  else
  (z_b1 (f_X10_in p3 (0 : Int32) (100 : Int32) σ) fun r8 =>
  if r8 = (0 : Int32) then
  (some ((-1 : Int32), σ))
  else
  (z_b1 (f_X10_in p4 (0 : Int32) (1 : Int32) σ) fun r11 =>
  if r11 = (0 : Int32) then
  (some ((-1 : Int32), σ))
  else
  (z_cki (0 : Int32) 537 <|
  if (σ 1 (0 : Int32).toNatClampNeg) = (20 : Int32) then
  (some ((-3 : Int32), σ))
  else
  (z_b1 (f_X10_notes σ) fun σ16 =>
  z_cki (0 : Int32) 537 <|
  z_let ((10 : Int32) + ((4 : Int32) * (σ16 1 (0 : Int32).toNatClampNeg))) fun x18 =>
  z_cki (x18 + (0 : Int32)) 537 <|
  z_let (z_u σ16 1 (x18 + (0 : Int32)).toNatClampNeg (p1)) fun σ20 =>
  z_cki (x18 + (1 : Int32)) 537 <|
  z_let (z_u σ20 1 (x18 + (1 : Int32)).toNatClampNeg (p2)) fun σ22 =>
  z_cki (x18 + (2 : Int32)) 537 <|
  z_let (z_u σ22 1 (x18 + (2 : Int32)).toNatClampNeg (p3)) fun σ24 =>
  z_cki (x18 + (3 : Int32)) 537 <|
  z_let (z_u σ24 1 (x18 + (3 : Int32)).toNatClampNeg (p4)) fun σ26 =>
  z_cki (0 : Int32) 537 <|
  z_cki (0 : Int32) 537 <|
  z_let (z_u σ26 1 (0 : Int32).toNatClampNeg ((σ26 1 (0 : Int32).toNatClampNeg) + (1 : Int32))) fun σ29 =>
  z_cki (0 : Int32) 537 <|
  z_b2 (f_X10_ends ((σ29 1 (0 : Int32).toNatClampNeg) - (1 : Int32)) σ29) fun r33 σ32 =>
  some (r33, σ32))))))
def f_X10_house (p1 : Int32) (p2 : Int32) (p3 : Int32) (σ : z_S) : Option (Int32 × z_S) :=
  z_b1 (f_X10_isCorner p1 σ) fun r2 =>
  if r2 = (0 : Int32) then
  (some ((-1 : Int32), σ))
  else
  (z_b1 (f_X10_in p2 (1 : Int32) (5 : Int32) σ) fun r5 =>
  if r5 = (0 : Int32) then
  (some ((-1 : Int32), σ))
  else
  (z_b1 (f_X10_in p3 (0 : Int32) (500 : Int32) σ) fun r8 =>
  if r8 = (0 : Int32) then
  (some ((-1 : Int32), σ))
  else
  (z_cki (1 : Int32) 537 <|
  if (σ 1 (1 : Int32).toNatClampNeg) = (24 : Int32) then
  (some ((-3 : Int32), σ))
  else
  (z_b1 (f_X10_notes σ) fun σ13 =>
  z_cki (1 : Int32) 537 <|
  z_let (σ13 1 (1 : Int32).toNatClampNeg) fun x15 =>
  z_b1 (f_X10_lays x15 (0 : Int32) p1 σ13) fun σ17 =>
  z_b1 (f_X10_lays x15 (1 : Int32) p2 σ17) fun σ19 =>
  z_b1 (f_X10_lays x15 (2 : Int32) p3 σ19) fun σ21 =>
  z_b1 (f_X10_lays x15 (3 : Int32) (-1 : Int32) σ21) fun σ23 =>
  z_cki (1 : Int32) 537 <|
  z_cki (1 : Int32) 537 <|
  z_let (z_u σ23 1 (1 : Int32).toNatClampNeg ((σ23 1 (1 : Int32).toNatClampNeg) + (1 : Int32))) fun σ26 =>
  z_b2 (f_X10_ends x15 σ26) fun r29 σ28 =>
  some (r29, σ28)))))
def f_X10_dog (p1 : Int32) (p2 : Int32) (p3 : Int32) (σ : z_S) : Option (Int32 × z_S) :=
  z_b1 (f_X10_isHouse p1 σ) fun r2 =>
  if r2 = (0 : Int32) then
  (some ((-1 : Int32), σ))
  else
  (z_let (fun (_ : Unit) => z_b1 (f_X10_in p3 (0 : Int32) (8 : Int32) σ) fun r6 =>
  if r6 = (0 : Int32) then
  (some ((-1 : Int32), σ))
  else
  (z_b1 (f_X10_notes σ) fun σ9 =>
  z_b1 (f_X10_of p1 (4 : Int32) σ9) fun r11 =>
  z_b1 (f_X10_lays p1 (4 : Int32) p2 σ9) fun σ13 =>
  z_b1 (f_X10_lays p1 (5 : Int32) p3 σ13) fun σ15 =>
  z_b2 (f_X10_ends r11 σ15) fun r18 σ17 =>
  some (r18, σ17))) fun j4 =>
  if p2 = (0 : Int32) then
  (j4 ())
  else
  (z_b1 (f_X10_in p2 (2 : Int32) (9 : Int32) σ) fun r21 =>
  if r21 = (0 : Int32) then
  (some ((-1 : Int32), σ))
  else
  (j4 ())))
def f_X10_pauses (p1 : Int32) (p2 : Int32) (p3 : Int32) (σ : z_S) : Option (Int32 × z_S) :=
  z_b1 (f_X10_isHouse p1 σ) fun r2 =>
  if r2 = (0 : Int32) then
  (some ((-1 : Int32), σ))
  else
  (z_cki (4 : Int32) 537 <|
  z_b1 (f_X10_in p2 (σ 1 (4 : Int32).toNatClampNeg) (999 : Int32) σ) fun r6 =>
  if r6 = (0 : Int32) then
  (some ((-1 : Int32), σ))
  else
  (z_b1 (f_X10_in p3 p2 (999 : Int32) σ) fun r9 =>
  if r9 = (0 : Int32) then
  (some ((-1 : Int32), σ))
  else
  (z_cki (3 : Int32) 537 <|
  if (σ 1 (3 : Int32).toNatClampNeg) = (30 : Int32) then
  (some ((-3 : Int32), σ))
  else
  (z_cki (3 : Int32) 537 <|
  z_let ((447 : Int32) + ((3 : Int32) * (σ 1 (3 : Int32).toNatClampNeg))) fun x14 =>
  z_cki x14 537 <|
  z_let (z_u σ 1 x14.toNatClampNeg (p1)) fun σ16 =>
  z_cki (x14 + (1 : Int32)) 537 <|
  z_let (z_u σ16 1 (x14 + (1 : Int32)).toNatClampNeg (p2)) fun σ18 =>
  z_cki (x14 + (2 : Int32)) 537 <|
  z_let (z_u σ18 1 (x14 + (2 : Int32)).toNatClampNeg (p3)) fun σ20 =>
  z_cki (3 : Int32) 537 <|
  z_cki (3 : Int32) 537 <|
  z_let (z_u σ20 1 (3 : Int32).toNatClampNeg ((σ20 1 (3 : Int32).toNatClampNeg) + (1 : Int32))) fun σ23 =>
  z_cki (3 : Int32) 537 <|
  some ((σ23 1 (3 : Int32).toNatClampNeg) - (1 : Int32), σ23)))))
def f_X10_pause (p1 : Int32) (p2 : Int32) (p3 : Int32) (σ : z_S) : Option (Int32 × z_S) :=
  z_b1 (f_X10_notes σ) fun σ2 =>
  z_b2 (f_X10_pauses p1 p2 p3 σ2) fun r5 σ4 =>
  z_b2 (f_X10_ends r5 σ4) fun r8 σ7 =>
  some (r8, σ7)
def f_X10_carrier (p1 : Int32) (p2 : Int32) (σ : z_S) : Option (Int32 × z_S) :=
  z_b1 (f_X10_in p1 (0 : Int32) (1 : Int32) σ) fun r2 =>
  if r2 = (0 : Int32) then
  (some ((-1 : Int32), σ))
  else
  (z_b1 (f_X10_in p2 (10 : Int32) (500 : Int32) σ) fun r5 =>
  if r5 = (0 : Int32) then
  (some ((-1 : Int32), σ))
  else
  (z_cki (2 : Int32) 537 <|
  if (σ 1 (2 : Int32).toNatClampNeg) = (3 : Int32) then
  (some ((-3 : Int32), σ))
  else
  (z_b1 (f_X10_notes σ) fun σ10 =>
  z_cki (2 : Int32) 537 <|
  z_b1 (f_X10_addsCarrier (σ10 1 (2 : Int32).toNatClampNeg) (0 : Int32) p1 σ10) fun σ13 =>
  z_cki (2 : Int32) 537 <|
  z_b1 (f_X10_addsCarrier (σ13 1 (2 : Int32).toNatClampNeg) (1 : Int32) p2 σ13) fun σ16 =>
  z_cki (2 : Int32) 537 <|
  z_cki (2 : Int32) 537 <|
  z_let (z_u σ16 1 (2 : Int32).toNatClampNeg ((σ16 1 (2 : Int32).toNatClampNeg) + (1 : Int32))) fun σ19 =>
  z_cki (2 : Int32) 537 <|
  z_b2 (f_X10_ends ((σ19 1 (2 : Int32).toNatClampNeg) - (1 : Int32)) σ19) fun r23 σ22 =>
  some (r23, σ22))))
def lb_X10_housesOf_4 (p1 : Int32) (σ : z_S) (k1 : Int32 → Int32 → Option Int32) (x2 : Int32) (x3 : Int32) : Option Int32 :=
  z_cki (1 : Int32) 537 <|
  if (σ 1 (1 : Int32).toNatClampNeg) ≤ x3 then
  (some (x2))
  else
  (z_b1 (f_X10_of x3 (3 : Int32) σ) fun r7 =>
  z_let (fun (y8 : Int32) => z_let (x2 + y8) fun x10 =>
  z_let (x3 + (1 : Int32)) fun x11 =>
  k1 x10 x11) fun j9 =>
  if r7 = p1 then
  (j9 (1 : Int32))
  else
  (j9 (0 : Int32)))
def f_X10_housesOf (p1 : Int32) (σ : z_S) : Option Int32 :=
  z_lp2 (lb_X10_housesOf_4 p1 σ) z_Fu (0 : Int32) (0 : Int32)
def f_X10_canReach (p1 : Int32) (p2 : Int32) (σ : z_S) : Option Int32 :=
  z_b1 (f_X10_ofCarrier p1 (0 : Int32) σ) fun r2 =>
  if r2 = (0 : Int32) then
  (some ((1 : Int32)))
  else
  (z_b1 (f_X10_of p2 (0 : Int32) σ) fun r5 =>
  z_b1 (f_X10_cartsCome r5 σ) fun r7 =>
  if r7 = (0 : Int32) then
  (some ((0 : Int32)))
  else
  (some ((1 : Int32))))
def f_X10_gives (p1 : Int32) (p2 : Int32) (σ : z_S) : Option (Int32 × z_S) :=
  z_b1 (f_X10_isHouse p1 σ) fun r2 =>
  if r2 = (0 : Int32) then
  (some ((-1 : Int32), σ))
  else
  (z_b1 (f_X10_isCarrier p2 σ) fun r5 =>
  if r5 = (0 : Int32) then
  (some ((-1 : Int32), σ))
  else
  (z_b1 (f_X10_of p1 (3 : Int32) σ) fun r8 =>
  if r8 = p2 then
  (some ((-2 : Int32), σ))
  else
  (z_b1 (f_X10_canReach p2 p1 σ) fun r11 =>
  if r11 = (0 : Int32) then
  (some ((-2 : Int32), σ))
  else
  (z_b1 (f_X10_lays p1 (3 : Int32) p2 σ) fun σ14 =>
  z_b1 (f_X10_housesOf p2 σ14) fun r16 =>
  some (r16, σ14)))))
def f_X10_give (p1 : Int32) (p2 : Int32) (σ : z_S) : Option (Int32 × z_S) :=
  z_b1 (f_X10_notes σ) fun σ2 =>
  z_b2 (f_X10_gives p1 p2 σ2) fun r5 σ4 =>
  z_b2 (f_X10_ends r5 σ4) fun r8 σ7 =>
  some (r8, σ7)
def f_X10_givesNone (p1 : Int32) (σ : z_S) : Option (Int32 × z_S) :=
  z_b1 (f_X10_isHouse p1 σ) fun r2 =>
  if r2 = (0 : Int32) then
  (some ((-1 : Int32), σ))
  else
  (z_b1 (f_X10_of p1 (3 : Int32) σ) fun r5 =>
  if r5 = (-1 : Int32) then
  (some ((-2 : Int32), σ))
  else
  (z_b1 (f_X10_lays p1 (3 : Int32) (-1 : Int32) σ) fun σ8 =>
  some (r5, σ8)))
def f_X10_giveNone (p1 : Int32) (σ : z_S) : Option (Int32 × z_S) :=
  z_b1 (f_X10_notes σ) fun σ2 =>
  z_b2 (f_X10_givesNone p1 σ2) fun r5 σ4 =>
  z_b2 (f_X10_ends r5 σ4) fun r8 σ7 =>
  some (r8, σ7)
def f_X10_addsBiscuits (p1 : Int32) (p2 : Int32) (σ : z_S) : Option (Int32 × z_S) :=
  z_b1 (f_X10_isCarrier p1 σ) fun r2 =>
  if r2 = (0 : Int32) then
  (some ((-1 : Int32), σ))
  else
  (z_b1 (f_X10_in p2 (1 : Int32) (99 : Int32) σ) fun r5 =>
  if r5 = (0 : Int32) then
  (some ((-1 : Int32), σ))
  else
  (z_b1 (f_X10_ofCarrier p1 (2 : Int32) σ) fun r8 =>
  if (r8 + p2) ≤ (500 : Int32) then
  (z_b1 (f_X10_addsCarrier p1 (2 : Int32) p2 σ) fun σ11 =>
  z_b1 (f_X10_ofCarrier p1 (2 : Int32) σ11) fun r13 =>
  some (r13, σ11))
  else
  (some ((-3 : Int32), σ))))
def f_X10_biscuits (p1 : Int32) (p2 : Int32) (σ : z_S) : Option (Int32 × z_S) :=
  z_b1 (f_X10_notes σ) fun σ2 =>
  z_b2 (f_X10_addsBiscuits p1 p2 σ2) fun r5 σ4 =>
  z_b2 (f_X10_ends r5 σ4) fun r8 σ7 =>
  some (r8, σ7)
def f_X10_set (p1 : Int32) (p2 : Int32) (σ : z_S) : Option (Int32 × z_S) :=
  z_b1 (f_X10_in p1 (0 : Int32) (1 : Int32) σ) fun r2 =>
  if r2 = (0 : Int32) then
  (some ((-1 : Int32), σ))
  else
  (z_let (fun (y4 : Int32) => z_b1 (f_X10_in p2 (1 : Int32) y4 σ) fun r7 =>
  if r7 = (0 : Int32) then
  (some ((-1 : Int32), σ))
  else
  (z_b1 (f_X10_notes σ) fun σ10 =>
  z_cki ((5 : Int32) + p1) 537 <|
  z_let (σ10 1 ((5 : Int32) + p1).toNatClampNeg) fun x12 =>
  z_cki ((5 : Int32) + p1) 537 <|
  z_let (z_u σ10 1 ((5 : Int32) + p1).toNatClampNeg (p2)) fun σ14 =>
  z_b2 (f_X10_ends x12 σ14) fun r17 σ16 =>
  some (r17, σ16))) fun j5 =>
  if p1 = (0 : Int32) then
  (j5 (20 : Int32))
  else
  (j5 (50 : Int32)))
def lb_X10_isPaused_5 (p1 : Int32) (p2 : Int32) (σ : z_S) (k1 : Int32 → Int32 → Option Int32) (x2 : Int32) (x3 : Int32) : Option Int32 :=
  z_cki (3 : Int32) 537 <|
  if (σ 1 (3 : Int32).toNatClampNeg) ≤ x3 then
  (z_ckz (x2) <|
  some (x2))
  else
  (z_let ((447 : Int32) + ((3 : Int32) * x3)) fun x7 =>
  z_let (fun (y8 : Int32) => z_let (x3 + (1 : Int32)) fun x10 =>
  k1 y8 x10) fun j9 =>
  z_let (fun (_ : Unit) => j9 (1 : Int32)) fun j11 =>
  if x2 = (0 : Int32) then
  (z_cki x7 537 <|
  z_let (fun (_ : Unit) => j9 (0 : Int32)) fun j14 =>
  if (σ 1 x7.toNatClampNeg) = p1 then
  (z_cki (x7 + (1 : Int32)) 537 <|
  z_cki (x7 + (2 : Int32)) 537 <|
  z_b1 (f_X10_in p2 (σ 1 (x7 + (1 : Int32)).toNatClampNeg) (σ 1 (x7 + (2 : Int32)).toNatClampNeg) σ) fun r19 =>
  if r19 = (0 : Int32) then
  (j14 ())
  else
  (j11 ()))
  else
  (j14 ()))
  else
  (j11 ()))
def f_X10_isPaused (p1 : Int32) (p2 : Int32) (σ : z_S) : Option Int32 :=
  z_lp2 (lb_X10_isPaused_5 p1 p2 σ) z_Fu (0 : Int32) (0 : Int32)
def f_X10_isOut (p1 : Int32) (p2 : Int32) (σ : z_S) : Option Int32 :=
  z_b1 (f_X10_of p1 (4 : Int32) σ) fun r2 =>
  if r2 ≤ (0 : Int32) then
  (some ((0 : Int32)))
  else
  (z_ck (¬ r2 = 0) <|
  z_b1 (f_X10_of p1 (5 : Int32) σ) fun r6 =>
  z_ck (¬ r2 = 0) <|
  if (p2 - p2 / r2 * r2) = (r6 - r6 / r2 * r2) then
  (some ((1 : Int32)))
  else
  (some ((0 : Int32))))
def f_X10_weightOn (p1 : Int32) (p2 : Int32) (σ : z_S) : Option Int32 :=
  z_b1 (f_X10_of p1 (1 : Int32) σ) fun r2 =>
  z_ck (¬ (7 : Int32) = 0) <|
  if (p2 - p2 / (7 : Int32) * (7 : Int32)) = (6 : Int32) then
  (z_cki (6 : Int32) 537 <|
  some (r2 * (σ 1 (6 : Int32).toNatClampNeg)))
  else
  (z_cki (5 : Int32) 537 <|
  some (r2 * (σ 1 (5 : Int32).toNatClampNeg)))
def lb_X10_loads_2 (p2 : Int32) (k1 : Int32 → z_S → Option z_S) (x2 : Int32) (σ3 : z_S) : Option z_S :=
  if x2 ≤ (0 : Int32) then
  (some σ3)
  else
  (z_cki x2 20 <|
  z_cki x2 20 <|
  z_let (z_u σ3 8 x2.toNatClampNeg ((σ3 8 x2.toNatClampNeg) + p2)) fun σ7 =>
  z_b1 (f_X10_ofCorner x2 (0 : Int32) σ7) fun r9 =>
  k1 r9 σ7)
def f_X10_loads (p1 : Int32) (p2 : Int32) (σ : z_S) : Option z_S :=
  z_lp2 (lb_X10_loads_2 p2) z_Fu p1 σ
def lb_X10_endsTrip_20 (y3 : Int32) (k5 : Int32 → z_S → Option z_S) (x6 : Int32) (σ7 : z_S) : Option z_S :=
  z_cki (0 : Int32) 537 <|
  if (σ7 1 (0 : Int32).toNatClampNeg) ≤ x6 then
  (some σ7)
  else
  (z_b1 (f_X10_ofCorner x6 (2 : Int32) σ7) fun r11 =>
  z_b1 (f_X10_ofCorner x6 (0 : Int32) σ7) fun r13 =>
  z_b1 (f_X10_ofCorner r13 (2 : Int32) σ7) fun r15 =>
  z_let (r11 - r15) fun x16 =>
  z_cki x6 20 <|
  z_let (fun (σ18 : z_S) => z_cki x6 20 <|
  z_let (z_u σ18 8 x6.toNatClampNeg ((0 : Int32))) fun σ21 =>
  z_let (x6 + (1 : Int32)) fun x22 =>
  k5 x22 σ21) fun j19 =>
  if (σ7 8 x6.toNatClampNeg) ≤ (0 : Int32) then
  (j19 σ7)
  else
  (z_b1 (f_X10_ofCorner x6 (1 : Int32) σ7) fun r25 =>
  z_let (fun (y26 : Int32) => z_let (z_u σ7 0 10 ((σ7 0 10) + (((2 : Int32) * r25) + y26))) fun σ28 =>
  j19 σ28) fun j27 =>
  if x16 ≤ (0 : Int32) then
  (j27 (-(x16)))
  else
  (z_cki x6 20 <|
  z_ck (¬ y3 = 0) <|
  j27 ((x16 * (y3 + (σ7 8 x6.toNatClampNeg))) / y3))))
def f_X10_endsTrip (p1 : Int32) (σ : z_S) : Option z_S :=
  z_b1 (f_X10_ofCarrier p1 (0 : Int32) σ) fun r2 =>
  z_let (fun (y3 : Int32) => z_lp2 (lb_X10_endsTrip_20 y3) z_Fu (1 : Int32) σ) fun j4 =>
  if r2 = (1 : Int32) then
  (j4 (20 : Int32))
  else
  (j4 (10 : Int32))
def f_X10_complains (p1 : Int32) (σ : z_S) : Option z_S :=
  z_b1 (f_X10_of p1 (11 : Int32) σ) fun r2 =>
  z_b1 (f_X10_lays p1 (11 : Int32) (r2 + (1 : Int32)) σ) fun σ4 =>
  z_b1 (f_X10_of p1 (12 : Int32) σ4) fun r6 =>
  z_b1 (f_X10_lays p1 (12 : Int32) (r6 + (1 : Int32)) σ4) fun σ8 =>
  some σ8
def f_X10_become (p1 : Int32) (p2 : Int32) (σ : z_S) : Option z_S :=
  z_b1 (f_X10_of p1 p2 σ) fun r2 =>
  z_b1 (f_X10_of p1 (1 : Int32) σ) fun r4 =>
  z_b1 (f_X10_lays p1 p2 (r2 + r4) σ) fun σ6 =>
  some σ6
def f_X10_delivers (p1 : Int32) (p2 : Int32) (p3 : Int32) (σ : z_S) : Option (Int32 × z_S) :=
  z_b1 (f_X10_isOut p2 p3 σ) fun r2 =>
  z_let (fun (_ : Unit) => z_let (fun (y4 : Int32) => z_b1 (f_X10_addsCarrier p1 (2 : Int32) y4 σ) fun σ7 =>
  z_b1 (f_X10_become p2 (6 : Int32) σ7) fun σ9 =>
  z_b1 (f_X10_lays p2 (13 : Int32) (1 : Int32) σ9) fun σ11 =>
  z_b1 (f_X10_of p2 (1 : Int32) σ11) fun r13 =>
  z_b1 (f_X10_addsCarrier p1 (6 : Int32) r13 σ11) fun σ15 =>
  some ((1 : Int32), σ15)) fun j5 =>
  if r2 = (0 : Int32) then
  (j5 (0 : Int32))
  else
  (j5 (-1 : Int32))) fun j3 =>
  if r2 = (0 : Int32) then
  (j3 ())
  else
  (z_b1 (f_X10_ofCarrier p1 (2 : Int32) σ) fun r19 =>
  if r19 = (0 : Int32) then
  (z_b1 (f_X10_become p2 (8 : Int32) σ) fun σ22 =>
  z_b1 (f_X10_complains p2 σ22) fun σ24 =>
  some ((0 : Int32), σ24))
  else
  (j3 ()))
def lb_X10_goes_65 (p1 : Int32) (p2 : Int32) (p3 : Int32) (r2 : Int32) (k13 : Int32 → Int32 → Int32 → z_S → Option (Int32 × z_S)) (x14 : Int32) (x15 : Int32) (x16 : Int32) (σ17 : z_S) : Option (Int32 × z_S) :=
  z_cki (1 : Int32) 537 <|
  if (σ17 1 (1 : Int32).toNatClampNeg) ≤ x16 then
  (z_b1 (f_X10_endsTrip p1 σ17) fun σ21 =>
  some (x15, σ21))
  else
  (z_cki x16 24 <|
  z_let (σ17 7 x16.toNatClampNeg) fun x23 =>
  z_b1 (f_X10_weightOn x23 p2 σ17) fun r25 =>
  z_b1 (f_X10_of x23 (3 : Int32) σ17) fun r27 =>
  z_let (fun (y28 : Int32) => z_let (fun (σ30 : z_S) => z_let (fun (y32 : Int32) (y33 : Int32) (σ34 : z_S) => z_let (x16 + (1 : Int32)) fun x36 =>
  k13 y32 y33 x36 σ34) fun j35 =>
  if y28 = (0 : Int32) then
  (j35 x14 x15 σ30)
  else
  (if r2 < r25 then
  (j35 x14 x15 σ30)
  else
  (z_let (fun (σ39 : z_S) => z_let (fun (y41 : Int32) => z_let (fun (y43 : Int32) => z_let (z_u σ39 0 9 ((σ39 0 9) + y43)) fun σ45 =>
  z_let (fun (y46 : Int32) => z_b1 (f_X10_of x23 (0 : Int32) σ45) fun r49 =>
  z_b1 (f_X10_loads r49 r25 σ45) fun σ51 =>
  z_b1 (f_X10_of x23 (1 : Int32) σ51) fun r53 =>
  z_let (z_u σ51 0 11 ((σ51 0 11) + r53)) fun σ54 =>
  z_b1 (f_X10_isOut x23 p2 σ54) fun r56 =>
  z_let (fun (y57 : Int32) => z_let (z_u σ54 0 12 ((σ54 0 12) + y57)) fun σ59 =>
  z_let (fun (y60 : Int32) (σ61 : z_S) => z_let (x15 + y60) fun x63 =>
  j35 y46 x63 σ61) fun j62 =>
  z_let (fun (σ64 : z_S) => j62 (0 : Int32) σ64) fun j65 =>
  if p3 = (0 : Int32) then
  (j65 σ59)
  else
  (z_b2 (f_X10_delivers p1 x23 p2 σ59) fun r69 σ68 =>
  if r69 = (0 : Int32) then
  (j65 σ68)
  else
  (z_b1 (f_X10_of x23 (1 : Int32) σ68) fun r72 =>
  j62 r72 σ68))) fun j58 =>
  if r56 = (0 : Int32) then
  (j58 (0 : Int32))
  else
  (j58 (1 : Int32))) fun j47 =>
  if y41 = (0 : Int32) then
  (j47 (x14 + r25))
  else
  (j47 r25)) fun j44 =>
  if y41 = (0 : Int32) then
  (j44 (0 : Int32))
  else
  (j44 (1 : Int32))) fun j42 =>
  z_let (fun (_ : Unit) => j42 (1 : Int32)) fun j76 =>
  if (σ39 0 9) = (0 : Int32) then
  (j76 ())
  else
  (if (x14 + r25) ≤ r2 then
  (j42 (0 : Int32))
  else
  (j76 ()))) fun j40 =>
  if (σ30 0 9) ≤ (0 : Int32) then
  (j40 σ30)
  else
  (if (x14 + r25) ≤ r2 then
  (j40 σ30)
  else
  (z_b1 (f_X10_endsTrip p1 σ30) fun σ82 =>
  j40 σ82))))) fun j31 =>
  if y28 = (0 : Int32) then
  (j31 σ17)
  else
  (if r25 ≤ r2 then
  (j31 σ17)
  else
  (if p3 = (0 : Int32) then
  (j31 σ17)
  else
  (z_b1 (f_X10_become x23 (9 : Int32) σ17) fun σ87 =>
  z_b1 (f_X10_complains x23 σ87) fun σ89 =>
  j31 σ89)))) fun j29 =>
  z_let (fun (_ : Unit) => j29 (0 : Int32)) fun j90 =>
  if r27 = p1 then
  (z_b1 (f_X10_isPaused x23 p2 σ17) fun r93 =>
  if r93 = (0 : Int32) then
  (j29 (1 : Int32))
  else
  (j90 ()))
  else
  (j90 ()))
def lb_X10_goes_41 (p1 : Int32) (p2 : Int32) (p3 : Int32) (r2 : Int32) (k9 : Int32 → z_S → Option (Int32 × z_S)) (x10 : Int32) (σ11 : z_S) : Option (Int32 × z_S) :=
  if (20 : Int32) ≤ x10 then
  (z_lp4 (lb_X10_goes_65 p1 p2 p3 r2) z_Fu (0 : Int32) (0 : Int32) (0 : Int32) σ11)
  else
  (z_cki x10 20 <|
  z_let (z_u σ11 8 x10.toNatClampNeg ((0 : Int32))) fun σ96 =>
  z_let (x10 + (1 : Int32)) fun x97 =>
  k9 x97 σ96)
def f_X10_goes (p1 : Int32) (p2 : Int32) (p3 : Int32) (σ : z_S) : Option (Int32 × z_S) :=
  z_b1 (f_X10_ofCarrier p1 (1 : Int32) σ) fun r2 =>
  z_let (z_u σ 0 9 ((0 : Int32))) fun σ3 =>
  z_let (z_u σ3 0 10 ((0 : Int32))) fun σ4 =>
  z_let (z_u σ4 0 11 ((0 : Int32))) fun σ5 =>
  z_let (z_u σ5 0 12 ((0 : Int32))) fun σ6 =>
  z_b1 (f_X10_laysRow σ6) fun σ8 =>
  z_lp2 (lb_X10_goes_41 p1 p2 p3 r2) z_Fu (0 : Int32) σ8
def f_X10_tips (p1 : Int32) (σ : z_S) : Option z_S :=
  z_b1 (f_X10_of p1 (3 : Int32) σ) fun r2 =>
  z_b1 (f_X10_of p1 (12 : Int32) σ) fun r4 =>
  z_let (fun (y5 : Int32) => z_let (fun (σ7 : z_S) => z_b1 (f_X10_lays p1 (13 : Int32) (0 : Int32) σ7) fun σ10 =>
  z_b1 (f_X10_lays p1 (12 : Int32) (0 : Int32) σ10) fun σ12 =>
  some σ12) fun j8 =>
  if r2 = (-1 : Int32) then
  (j8 σ)
  else
  (z_b1 (f_X10_of p1 (13 : Int32) σ) fun r15 =>
  if r15 = (1 : Int32) then
  (z_b1 (f_X10_addsCarrier r2 (5 : Int32) y5 σ) fun σ18 =>
  j8 σ18)
  else
  (j8 σ))) fun j6 =>
  if r4 = (0 : Int32) then
  (z_b1 (f_X10_of p1 (2 : Int32) σ) fun r25 =>
  j6 r25)
  else
  (if r4 = (1 : Int32) then
  (z_b1 (f_X10_of p1 (2 : Int32) σ) fun r22 =>
  z_ck (¬ (2 : Int32) = 0) <|
  j6 (r22 / (2 : Int32)))
  else
  (j6 (0 : Int32)))
def lb_X10_dayGoes_118 (x2 : Int32) (x9 : Int32) (k14 : Int32 → z_S → Option (Int32 × z_S)) (x15 : Int32) (σ16 : z_S) : Option (Int32 × z_S) :=
  z_cki (1 : Int32) 537 <|
  z_let (fun (_ : Unit) => z_cki (4 : Int32) 537 <|
  z_cki (4 : Int32) 537 <|
  z_let (z_u σ16 1 (4 : Int32).toNatClampNeg ((σ16 1 (4 : Int32).toNatClampNeg) + (1 : Int32))) fun σ21 =>
  some (x9, σ21)) fun j18 =>
  if (σ16 1 (1 : Int32).toNatClampNeg) ≤ x15 then
  (j18 ())
  else
  (z_ck (¬ (7 : Int32) = 0) <|
  if (x2 - x2 / (7 : Int32) * (7 : Int32)) = (6 : Int32) then
  (z_b1 (f_X10_tips x15 σ16) fun σ26 =>
  z_let (x15 + (1 : Int32)) fun x27 =>
  k14 x27 σ26)
  else
  (j18 ()))
def lb_X10_dayGoes_70 (x2 : Int32) (k8 : Int32 → Int32 → z_S → Option (Int32 × z_S)) (x9 : Int32) (x10 : Int32) (σ11 : z_S) : Option (Int32 × z_S) :=
  z_cki (2 : Int32) 537 <|
  if (σ11 1 (2 : Int32).toNatClampNeg) ≤ x10 then
  (z_lp2 (lb_X10_dayGoes_118 x2 x9) z_Fu (0 : Int32) σ11)
  else
  (z_b2 (f_X10_goes x10 x2 (1 : Int32) σ11) fun r30 σ29 =>
  z_let (x9 + r30) fun x31 =>
  z_b1 (f_X10_addsCarrier x10 (3 : Int32) (σ29 0 9) σ29) fun σ33 =>
  z_b1 (f_X10_addsCarrier x10 (4 : Int32) (σ33 0 10) σ33) fun σ35 =>
  z_let (x10 + (1 : Int32)) fun x36 =>
  k8 x31 x36 σ35)
def lb_X10_dayGoes_9 (x2 : Int32) (k3 : Int32 → z_S → Option (Int32 × z_S)) (x4 : Int32) (σ5 : z_S) : Option (Int32 × z_S) :=
  z_cki (1 : Int32) 537 <|
  if (σ5 1 (1 : Int32).toNatClampNeg) ≤ x4 then
  (z_lp3 (lb_X10_dayGoes_70 x2) z_Fu (0 : Int32) (0 : Int32) σ5)
  else
  (z_b1 (f_X10_isPaused x4 x2 σ5) fun r38 =>
  z_let (fun (σ39 : z_S) => z_let (x4 + (1 : Int32)) fun x41 =>
  k3 x41 σ39) fun j40 =>
  if r38 = (0 : Int32) then
  (z_b1 (f_X10_of x4 (3 : Int32) σ5) fun r44 =>
  if r44 = (-1 : Int32) then
  (z_b1 (f_X10_become x4 (10 : Int32) σ5) fun σ47 =>
  z_b1 (f_X10_complains x4 σ47) fun σ49 =>
  j40 σ49)
  else
  (j40 σ5))
  else
  (z_b1 (f_X10_become x4 (7 : Int32) σ5) fun σ51 =>
  j40 σ51))
def f_X10_dayGoes (σ : z_S) : Option (Int32 × z_S) :=
  z_cki (4 : Int32) 537 <|
  z_let (σ 1 (4 : Int32).toNatClampNeg) fun x2 =>
  z_lp2 (lb_X10_dayGoes_9 x2) z_Fu (0 : Int32) σ
def lb_X10_daysGo_33 (p1 : Int32) (k6 : Int32 → Int32 → z_S → Option (Int32 × z_S)) (x7 : Int32) (x8 : Int32) (σ9 : z_S) : Option (Int32 × z_S) :=
  if p1 ≤ x8 then
  (some (x7, σ9))
  else
  (z_b2 (f_X10_dayGoes σ9) fun r13 σ12 =>
  z_let (x7 + r13) fun x14 =>
  z_let (x8 + (1 : Int32)) fun x15 =>
  k6 x14 x15 σ12)
def f_X10_daysGo (p1 : Int32) (σ : z_S) : Option (Int32 × z_S) :=
  z_b1 (f_X10_in p1 (1 : Int32) (31 : Int32) σ) fun r2 =>
  if r2 = (0 : Int32) then
  (some ((-1 : Int32), σ))
  else
  (z_cki (4 : Int32) 537 <|
  if ((σ 1 (4 : Int32).toNatClampNeg) + p1) ≤ (1000 : Int32) then
  (z_lp3 (lb_X10_daysGo_33 p1) z_Fu (0 : Int32) (0 : Int32) σ)
  else
  (some ((-3 : Int32), σ)))
def f_X10_days (p1 : Int32) (σ : z_S) : Option (Int32 × z_S) :=
  z_b1 (f_X10_notes σ) fun σ2 =>
  z_b2 (f_X10_daysGo p1 σ2) fun r5 σ4 =>
  z_b2 (f_X10_ends r5 σ4) fun r8 σ7 =>
  some (r8, σ7)
def lb_X10_housesBeyond_4 (p1 : Int32) (σ : z_S) (k1 : Int32 → Int32 → Option Int32) (x2 : Int32) (x3 : Int32) : Option Int32 :=
  z_cki (1 : Int32) 537 <|
  if (σ 1 (1 : Int32).toNatClampNeg) ≤ x3 then
  (some (x2))
  else
  (z_b1 (f_X10_of x3 (0 : Int32) σ) fun r7 =>
  z_b1 (f_X10_isBeyond r7 p1 σ) fun r9 =>
  z_let (fun (y10 : Int32) => z_let (x2 + y10) fun x12 =>
  z_let (x3 + (1 : Int32)) fun x13 =>
  k1 x12 x13) fun j11 =>
  if r9 = (0 : Int32) then
  (j11 (0 : Int32))
  else
  (j11 (1 : Int32)))
def f_X10_housesBeyond (p1 : Int32) (σ : z_S) : Option Int32 :=
  z_lp2 (lb_X10_housesBeyond_4 p1 σ) z_Fu (0 : Int32) (0 : Int32)
def f_X10_cornerOf (p1 : Int32) (p2 : Int32) (σ : z_S) : Option Int32 :=
  z_b1 (f_X10_isCorner p1 σ) fun r2 =>
  if r2 = (0 : Int32) then
  (some ((-1 : Int32)))
  else
  (z_b1 (f_X10_in p2 (0 : Int32) (6 : Int32) σ) fun r5 =>
  if r5 = (0 : Int32) then
  (some ((-1 : Int32)))
  else
  (z_let (fun (_ : Unit) => if (4 : Int32) ≤ p2 then
  (if p2 = (4 : Int32) then
  (z_b1 (f_X10_farOf p1 σ) fun r17 =>
  some (r17))
  else
  (if p2 = (5 : Int32) then
  (z_b1 (f_X10_housesBeyond p1 σ) fun r15 =>
  some (r15))
  else
  (z_b1 (f_X10_cartsCome p1 σ) fun r12 =>
  if r12 = (0 : Int32) then
  (some ((0 : Int32)))
  else
  (some ((1 : Int32))))))
  else
  (z_b1 (f_X10_ofCorner p1 p2 σ) fun r19 =>
  some (r19))) fun j7 =>
  if p1 = (0 : Int32) then
  (if p2 < (2 : Int32) then
  (some ((-4 : Int32)))
  else
  (if p2 = (3 : Int32) then
  (some ((-4 : Int32)))
  else
  (j7 ())))
  else
  (j7 ())))
def f_X10_houseOf (p1 : Int32) (p2 : Int32) (σ : z_S) : Option Int32 :=
  z_b1 (f_X10_isHouse p1 σ) fun r2 =>
  if r2 = (0 : Int32) then
  (some ((-1 : Int32)))
  else
  (z_b1 (f_X10_in p2 (0 : Int32) (11 : Int32) σ) fun r5 =>
  if r5 = (0 : Int32) then
  (some ((-1 : Int32)))
  else
  (if p2 = (3 : Int32) then
  (z_b1 (f_X10_of p1 (3 : Int32) σ) fun r9 =>
  if r9 = (-1 : Int32) then
  (some ((-4 : Int32)))
  else
  (z_b1 (f_X10_of p1 (3 : Int32) σ) fun r12 =>
  some (r12)))
  else if p2 = (4 : Int32) then
  (z_b1 (f_X10_of p1 (4 : Int32) σ) fun r15 =>
  if r15 = (0 : Int32) then
  (some ((-4 : Int32)))
  else
  (z_b1 (f_X10_of p1 (4 : Int32) σ) fun r18 =>
  some (r18)))
  else if p2 = (5 : Int32) then
  (z_cki (4 : Int32) 537 <|
  z_b1 (f_X10_isPaused p1 (σ 1 (4 : Int32).toNatClampNeg) σ) fun r22 =>
  if r22 = (0 : Int32) then
  (some ((0 : Int32)))
  else
  (some ((1 : Int32))))
  else if p2 = (6 : Int32) then
  (z_b1 (f_X10_of p1 p2 σ) fun r26 =>
  some (r26))
  else if p2 = (7 : Int32) then
  (z_b1 (f_X10_of p1 p2 σ) fun r29 =>
  some (r29))
  else if p2 = (8 : Int32) then
  (z_b1 (f_X10_of p1 (8 : Int32) σ) fun r32 =>
  z_b1 (f_X10_of p1 (9 : Int32) σ) fun r34 =>
  some (r32 + r34))
  else if p2 = (9 : Int32) then
  (z_b1 (f_X10_of p1 (p2 + (1 : Int32)) σ) fun r37 =>
  some (r37))
  else if p2 = (10 : Int32) then
  (z_b1 (f_X10_of p1 (p2 + (1 : Int32)) σ) fun r40 =>
  some (r40))
  else if p2 = (11 : Int32) then
  (z_b1 (f_X10_of p1 (p2 + (1 : Int32)) σ) fun r43 =>
  some (r43))
  else (z_b1 (f_X10_of p1 p2 σ) fun r45 =>
  some (r45))))
def f_X10_dueOf (p1 : Int32) (σ : z_S) : Option Int32 :=
  z_b1 (f_X10_of p1 (6 : Int32) σ) fun r2 =>
  z_b1 (f_X10_of p1 (8 : Int32) σ) fun r4 =>
  z_b1 (f_X10_of p1 (9 : Int32) σ) fun r6 =>
  z_b1 (f_X10_of p1 (10 : Int32) σ) fun r8 =>
  some (((r2 + r4) + r6) + r8)
def f_X10_shareOf (p1 : Int32) (σ : z_S) : Option UInt32 :=
  z_b1 (f_X10_of p1 (6 : Int32) σ) fun r2 =>
  z_b1 (f_X10_dueOf p1 σ) fun r4 =>
  z_f32 (FP.fdiv (FP.i2f r2) (FP.i2f r4)) <|
  some (FP.fdiv (FP.i2f r2) (FP.i2f r4))
def lb_X10_bitsOf_13 (k2 : UInt32 → Int32 → Option Int32) (x3 : UInt32) (x4 : Int32) : Option Int32 :=
  if (0 : Int32) ≤ (Op.cmpValue (FP.fcmp x3 (FP.fconst1)) .g) then
  (z_f32 (FP.fsub x3 (FP.fconst1)) <|
  z_f32 (FP.fmul (FP.fsub x3 (FP.fconst1)) ((1258291200 : UInt32))) <|
  some ((x4 <<< ((23 : Int32) &&& 31)) + (FP.f2i (FP.fmul (FP.fsub x3 (FP.fconst1)) ((1258291200 : UInt32))))))
  else
  (z_f32 (FP.fmul x3 (FP.fconst2)) <|
  z_let (FP.fmul x3 (FP.fconst2)) fun x9 =>
  z_let (x4 + (-1 : Int32)) fun x10 =>
  k2 x9 x10)
def f_X10_bitsOf (p0 : UInt32) (σ : z_S) : Option Int32 :=
  if (Op.cmpValue (FP.fcmp p0 (FP.fconst0)) .l) = (0 : Int32) then
  (some ((0 : Int32)))
  else
  (z_lp2 lb_X10_bitsOf_13 z_Fu p0 (127 : Int32))
def f_X10_shareBits (p1 : Int32) (σ : z_S) : Option Int32 :=
  z_b1 (f_X10_isHouse p1 σ) fun r2 =>
  if r2 = (0 : Int32) then
  (some ((-1 : Int32)))
  else
  (z_b1 (f_X10_dueOf p1 σ) fun r5 =>
  if r5 = (0 : Int32) then
  (some ((-4 : Int32)))
  else
  (z_b1 (f_X10_shareOf p1 σ) fun r8 =>
  z_b1 (f_X10_bitsOf r8 σ) fun r10 =>
  some (r10)))
def lb_X10_meanBits_7 (σ : z_S) (k2 : UInt64 → Int32 → Int32 → Option Int32) (x3 : UInt64) (x4 : Int32) (x5 : Int32) : Option Int32 :=
  z_cki (1 : Int32) 537 <|
  if (σ 1 (1 : Int32).toNatClampNeg) ≤ x5 then
  (if x4 = (0 : Int32) then
  (some ((-4 : Int32)))
  else
  (z_f64 (FP.ddiv x3 (FP.i2d x4)) <|
  z_f32 (FP.d2f (FP.ddiv x3 (FP.i2d x4))) <|
  z_b1 (f_X10_bitsOf (FP.d2f (FP.ddiv x3 (FP.i2d x4))) σ) fun r12 =>
  some (r12)))
  else
  (z_b1 (f_X10_dueOf x5 σ) fun r14 =>
  z_let (fun (y15 : UInt64) (y16 : Int32) => z_let (x5 + (1 : Int32)) fun x18 =>
  k2 y15 y16 x18) fun j17 =>
  if r14 ≤ (0 : Int32) then
  (j17 x3 x4)
  else
  (z_b1 (f_X10_shareOf x5 σ) fun r21 =>
  z_f64 (FP.f2d r21) <|
  z_f64 (FP.dadd x3 (FP.f2d r21)) <|
  z_let (FP.dadd x3 (FP.f2d r21)) fun x24 =>
  z_let (x4 + (1 : Int32)) fun x25 =>
  j17 x24 x25))
def f_X10_meanBits (σ : z_S) : Option Int32 :=
  z_let (FP.dconst0) fun x1 =>
  z_lp3 (lb_X10_meanBits_7 σ) z_Fu x1 (0 : Int32) (0 : Int32)
def f_X10_carrierOf (p1 : Int32) (p2 : Int32) (σ : z_S) : Option Int32 :=
  z_b1 (f_X10_isCarrier p1 σ) fun r2 =>
  if r2 = (0 : Int32) then
  (some ((-1 : Int32)))
  else
  (z_b1 (f_X10_in p2 (0 : Int32) (7 : Int32) σ) fun r5 =>
  if r5 = (0 : Int32) then
  (some ((-1 : Int32)))
  else
  (if p2 = (3 : Int32) then
  (z_b1 (f_X10_housesOf p1 σ) fun r14 =>
  some (r14))
  else
  (z_let (fun (y8 : Int32) => z_b1 (f_X10_ofCarrier p1 y8 σ) fun r11 =>
  some (r11)) fun j9 =>
  if (3 : Int32) ≤ p2 then
  (j9 (p2 - (1 : Int32)))
  else
  (j9 p2))))
def f_X10_pauseOf (p1 : Int32) (p2 : Int32) (σ : z_S) : Option Int32 :=
  z_cki (3 : Int32) 537 <|
  z_b1 (f_X10_in p1 (0 : Int32) ((σ 1 (3 : Int32).toNatClampNeg) - (1 : Int32)) σ) fun r3 =>
  if r3 = (0 : Int32) then
  (some ((-1 : Int32)))
  else
  (z_b1 (f_X10_in p2 (0 : Int32) (2 : Int32) σ) fun r6 =>
  if r6 = (0 : Int32) then
  (some ((-1 : Int32)))
  else
  (z_cki (((447 : Int32) + ((3 : Int32) * p1)) + p2) 537 <|
  some (σ 1 (((447 : Int32) + ((3 : Int32) * p1)) + p2).toNatClampNeg)))
def lb_X10_roundAt_23 (p1 : Int32) (σ6 : z_S) (k7 : Int32 → Int32 → Option (Int32 × z_S)) (x8 : Int32) (x9 : Int32) : Option (Int32 × z_S) :=
  z_cki (1 : Int32) 537 <|
  if (σ6 1 (1 : Int32).toNatClampNeg) ≤ x9 then
  (some ((-4 : Int32), σ6))
  else
  (z_cki x9 24 <|
  z_b1 (f_X10_of (σ6 7 x9.toNatClampNeg) (3 : Int32) σ6) fun r14 =>
  z_let (fun (y15 : Int32) => z_let (x9 + (1 : Int32)) fun x17 =>
  k7 y15 x17) fun j16 =>
  if r14 = p1 then
  (if x8 = (0 : Int32) then
  (z_cki x9 24 <|
  some (σ6 7 x9.toNatClampNeg, σ6))
  else
  (z_let (x8 + (-1 : Int32)) fun x20 =>
  j16 x20))
  else
  (j16 x8))
def f_X10_roundAt (p1 : Int32) (p2 : Int32) (σ : z_S) : Option (Int32 × z_S) :=
  z_b1 (f_X10_isCarrier p1 σ) fun r2 =>
  if r2 = (0 : Int32) then
  (some ((-1 : Int32), σ))
  else
  (if (0 : Int32) ≤ p2 then
  (z_b1 (f_X10_laysRow σ) fun σ6 =>
  z_lp2 (lb_X10_roundAt_23 p1 σ6) z_Fu p2 (0 : Int32))
  else
  (some ((-1 : Int32), σ)))
def f_X10_round (p1 : Int32) (p2 : Int32) (p3 : Int32) (σ : z_S) : Option (Int32 × z_S) :=
  z_b1 (f_X10_isCarrier p1 σ) fun r2 =>
  if r2 = (0 : Int32) then
  (some ((-1 : Int32), σ))
  else
  (z_cki (4 : Int32) 537 <|
  z_b1 (f_X10_in p2 (σ 1 (4 : Int32).toNatClampNeg) (999 : Int32) σ) fun r6 =>
  if r6 = (0 : Int32) then
  (some ((-1 : Int32), σ))
  else
  (z_b1 (f_X10_in p3 (0 : Int32) (3 : Int32) σ) fun r9 =>
  if r9 = (0 : Int32) then
  (some ((-1 : Int32), σ))
  else
  (z_b2 (f_X10_goes p1 p2 (0 : Int32) σ) fun r13 σ12 =>
  if p3 = (0 : Int32) then
  (some (σ12 0 9, σ12))
  else
  (if p3 = (1 : Int32) then
  (some (σ12 0 10, σ12))
  else
  (if p3 = (2 : Int32) then
  (some (σ12 0 11, σ12))
  else
  (some (σ12 0 12, σ12)))))))
def f_X10_moreBy (p1 : Int32) (p2 : Int32) (p3 : Int32) (σ : z_S) : Option (Int32 × z_S) :=
  z_b2 (f_X10_goes p1 p3 (0 : Int32) σ) fun r3 σ2 =>
  z_let (σ2 0 10) fun x4 =>
  z_b1 (f_X10_of p2 (3 : Int32) σ2) fun r6 =>
  z_b1 (f_X10_lays p2 (3 : Int32) p1 σ2) fun σ8 =>
  z_b2 (f_X10_goes p1 p3 (0 : Int32) σ8) fun r11 σ10 =>
  z_b1 (f_X10_lays p2 (3 : Int32) r6 σ10) fun σ13 =>
  some ((σ13 0 10) - x4, σ13)
def lb_X10_lightest_35 (p1 : Int32) (p2 : Int32) (k8 : Int32 → Int32 → Int32 → z_S → Option (Int32 × z_S)) (x9 : Int32) (x10 : Int32) (x11 : Int32) (σ12 : z_S) : Option (Int32 × z_S) :=
  z_cki (2 : Int32) 537 <|
  if (σ12 1 (2 : Int32).toNatClampNeg) ≤ x11 then
  (some (x9, σ12))
  else
  (z_b1 (f_X10_of p1 (3 : Int32) σ12) fun r16 =>
  z_let (fun (y17 : Int32) (y18 : Int32) (σ19 : z_S) => z_let (x11 + (1 : Int32)) fun x21 =>
  k8 y17 y18 x21 σ19) fun j20 =>
  if r16 = x11 then
  (j20 x9 x10 σ12)
  else
  (z_b1 (f_X10_canReach x11 p1 σ12) fun r24 =>
  if r24 = (0 : Int32) then
  (j20 x9 x10 σ12)
  else
  (z_b2 (f_X10_moreBy x11 p1 p2 σ12) fun r28 σ27 =>
  z_let (fun (y29 : Int32) => z_let (fun (y31 : Int32) => z_let (fun (y33 : Int32) => j20 y31 y33 σ27) fun j34 =>
  if y29 = (0 : Int32) then
  (j34 x10)
  else
  (j34 r28)) fun j32 =>
  if y29 = (0 : Int32) then
  (j32 x9)
  else
  (j32 x11)) fun j30 =>
  z_let (fun (_ : Unit) => j30 (1 : Int32)) fun j37 =>
  if x9 = (-4 : Int32) then
  (j37 ())
  else
  (if x10 ≤ r28 then
  (j30 (0 : Int32))
  else
  (j37 ())))))
def f_X10_lightest (p1 : Int32) (p2 : Int32) (σ : z_S) : Option (Int32 × z_S) :=
  z_b1 (f_X10_isHouse p1 σ) fun r2 =>
  if r2 = (0 : Int32) then
  (some ((-1 : Int32), σ))
  else
  (z_cki (4 : Int32) 537 <|
  z_b1 (f_X10_in p2 (σ 1 (4 : Int32).toNatClampNeg) (999 : Int32) σ) fun r6 =>
  if r6 = (0 : Int32) then
  (some ((-1 : Int32), σ))
  else
  (z_lp4 (lb_X10_lightest_35 p1 p2) z_Fu (-4 : Int32) (0 : Int32) (0 : Int32) σ))
def lb_X10_nextDog_17 (p1 : Int32) (σ : z_S) (k6 : Int32 → Option Int32) (x7 : Int32) : Option Int32 :=
  if (1000 : Int32) ≤ x7 then
  (some ((-4 : Int32)))
  else
  (z_b1 (f_X10_isOut p1 x7 σ) fun r10 =>
  z_let (fun (_ : Unit) => z_let (x7 + (1 : Int32)) fun x12 =>
  k6 x12) fun j11 =>
  if r10 = (0 : Int32) then
  (j11 ())
  else
  (z_b1 (f_X10_isPaused p1 x7 σ) fun r15 =>
  if r15 = (0 : Int32) then
  (some (x7))
  else
  (j11 ())))
def f_X10_nextDog (p1 : Int32) (σ : z_S) : Option Int32 :=
  z_b1 (f_X10_isHouse p1 σ) fun r2 =>
  if r2 = (0 : Int32) then
  (some ((-1 : Int32)))
  else
  (z_cki (4 : Int32) 537 <|
  z_let (σ 1 (4 : Int32).toNatClampNeg) fun x5 =>
  z_lp1 (lb_X10_nextDog_17 p1 σ) z_Fu x5)
def lb_X10_overHouses_4 (p1 : Int32) (σ : z_S) (k1 : Int32 → Int32 → Option Int32) (x2 : Int32) (x3 : Int32) : Option Int32 :=
  z_cki (1 : Int32) 537 <|
  if (σ 1 (1 : Int32).toNatClampNeg) ≤ x3 then
  (some (x2))
  else
  (z_b1 (f_X10_of x3 p1 σ) fun r7 =>
  z_let (x2 + r7) fun x8 =>
  z_let (x3 + (1 : Int32)) fun x9 =>
  k1 x8 x9)
def f_X10_overHouses (p1 : Int32) (σ : z_S) : Option Int32 :=
  z_lp2 (lb_X10_overHouses_4 p1 σ) z_Fu (0 : Int32) (0 : Int32)
def f_X10_account (p1 : Int32) (σ : z_S) : Option Int32 :=
  if p1 = (0 : Int32) then
  (z_b1 (f_X10_overHouses (6 : Int32) σ) fun r3 =>
  z_b1 (f_X10_overHouses (7 : Int32) σ) fun r5 =>
  z_b1 (f_X10_overHouses (8 : Int32) σ) fun r7 =>
  z_b1 (f_X10_overHouses (9 : Int32) σ) fun r9 =>
  z_b1 (f_X10_overHouses (10 : Int32) σ) fun r11 =>
  some ((((r3 + r5) + r7) + r9) + r11))
  else if p1 = (1 : Int32) then
  (z_b1 (f_X10_overHouses (((6 : Int32) + p1) - (1 : Int32)) σ) fun r14 =>
  some (r14))
  else if p1 = (2 : Int32) then
  (z_b1 (f_X10_overHouses (((6 : Int32) + p1) - (1 : Int32)) σ) fun r17 =>
  some (r17))
  else if p1 = (3 : Int32) then
  (z_b1 (f_X10_overHouses (((6 : Int32) + p1) - (1 : Int32)) σ) fun r20 =>
  some (r20))
  else if p1 = (4 : Int32) then
  (z_b1 (f_X10_overHouses (((6 : Int32) + p1) - (1 : Int32)) σ) fun r23 =>
  some (r23))
  else if p1 = (5 : Int32) then
  (z_b1 (f_X10_overHouses (((6 : Int32) + p1) - (1 : Int32)) σ) fun r26 =>
  some (r26))
  else (some ((-1 : Int32)))
def lb_X10_pausedNow_4 (σ : z_S) (k1 : Int32 → Int32 → Option Int32) (x2 : Int32) (x3 : Int32) : Option Int32 :=
  z_cki (1 : Int32) 537 <|
  if (σ 1 (1 : Int32).toNatClampNeg) ≤ x3 then
  (some (x2))
  else
  (z_cki (4 : Int32) 537 <|
  z_b1 (f_X10_isPaused x3 (σ 1 (4 : Int32).toNatClampNeg) σ) fun r8 =>
  z_let (fun (y9 : Int32) => z_let (x2 + y9) fun x11 =>
  z_let (x3 + (1 : Int32)) fun x12 =>
  k1 x11 x12) fun j10 =>
  if r8 = (0 : Int32) then
  (j10 (0 : Int32))
  else
  (j10 (1 : Int32)))
def f_X10_pausedNow (σ : z_S) : Option Int32 :=
  z_lp2 (lb_X10_pausedNow_4 σ) z_Fu (0 : Int32) (0 : Int32)
def lb_X10_tipsAll_4 (σ : z_S) (k1 : Int32 → Int32 → Option Int32) (x2 : Int32) (x3 : Int32) : Option Int32 :=
  z_cki (2 : Int32) 537 <|
  if (σ 1 (2 : Int32).toNatClampNeg) ≤ x3 then
  (some (x2))
  else
  (z_b1 (f_X10_ofCarrier x3 (5 : Int32) σ) fun r7 =>
  z_let (x2 + r7) fun x8 =>
  z_let (x3 + (1 : Int32)) fun x9 =>
  k1 x8 x9)
def f_X10_tipsAll (σ : z_S) : Option Int32 :=
  z_lp2 (lb_X10_tipsAll_4 σ) z_Fu (0 : Int32) (0 : Int32)
def f_X10_count (p1 : Int32) (σ : z_S) : Option Int32 :=
  if p1 = (0 : Int32) then
  (z_cki p1 537 <|
  some (σ 1 p1.toNatClampNeg))
  else if p1 = (1 : Int32) then
  (z_cki p1 537 <|
  some (σ 1 p1.toNatClampNeg))
  else if p1 = (2 : Int32) then
  (z_cki p1 537 <|
  some (σ 1 p1.toNatClampNeg))
  else if p1 = (3 : Int32) then
  (z_cki p1 537 <|
  some (σ 1 p1.toNatClampNeg))
  else if p1 = (4 : Int32) then
  (z_cki p1 537 <|
  some (σ 1 p1.toNatClampNeg))
  else if p1 = (5 : Int32) then
  (z_b1 (f_X10_housesOf (-1 : Int32) σ) fun r13 =>
  some (r13))
  else if p1 = (6 : Int32) then
  (z_b1 (f_X10_pausedNow σ) fun r16 =>
  some (r16))
  else if p1 = (7 : Int32) then
  (z_b1 (f_X10_overHouses (11 : Int32) σ) fun r19 =>
  some (r19))
  else if p1 = (8 : Int32) then
  (z_b1 (f_X10_tipsAll σ) fun r22 =>
  some (r22))
  else if p1 = (9 : Int32) then
  (some (σ 0 2))
  else if p1 = (10 : Int32) then
  (some (σ 0 6))
  else (z_b1 (f_X10_in p1 (20 : Int32) (21 : Int32) σ) fun r26 =>
  if r26 = (0 : Int32) then
  (some ((-1 : Int32)))
  else
  (z_cki (((5 : Int32) + p1) - (20 : Int32)) 537 <|
  some (σ 1 (((5 : Int32) + p1) - (20 : Int32)).toNatClampNeg)))
def f_X10_undo (σ : z_S) : Option (Int32 × z_S) :=
  if (σ 0 2) = (0 : Int32) then
  (some ((-2 : Int32), σ))
  else
  (z_let (z_u σ 0 2 ((σ 0 2) - (1 : Int32))) fun σ2 =>
  z_b1 (f_X10_copies 2148 537 ((σ2 0 2) * (537 : Int32)) (0 : Int32) (fun k => σ2 (zi2 2 1 k))) fun σ4 =>
  z_let (z_m σ2 (zk2 2 1) 2 σ4) fun σ5 =>
  some (σ5 0 2, σ5))
def f_X10_type (p1 : Int32) (σ : z_S) : Option (Int32 × z_S) :=
  z_b1 (f_X10_in p1 (32 : Int32) (126 : Int32) σ) fun r2 =>
  if r2 = (0 : Int32) then
  (some ((-1 : Int32), σ))
  else
  (if (σ 0 6) = (60 : Int32) then
  (some ((-3 : Int32), σ))
  else
  (z_cki (σ 0 6) 60 <|
  z_let (z_u σ 5 (σ 0 6).toNatClampNeg (p1)) fun σ6 =>
  z_let (z_u σ6 0 6 ((σ6 0 6) + (1 : Int32))) fun σ7 =>
  some (σ7 0 6, σ7)))
def f_X10_clearText (σ : z_S) : Option (Int32 × z_S) :=
  z_let (σ 0 6) fun x1 =>
  z_let (z_u σ 0 6 ((0 : Int32))) fun σ2 =>
  some (x1, σ2)
def f_X10_signAt (p1 : Int32) (σ : z_S) : Option Int32 :=
  if (σ 0 6) ≤ p1 then
  (some ((0 : Int32)))
  else
  (z_cki p1 60 <|
  some (σ 5 p1.toNatClampNeg))
def lb_X10_readsNumber_4 (p1 : Int32) (k1 : Int32 → Int32 → z_S → Option (Int32 × z_S)) (x2 : Int32) (x3 : Int32) (σ4 : z_S) : Option (Int32 × z_S) :=
  z_let (fun (_ : Unit) => z_cki p1 3 <|
  z_let (z_u σ4 9 p1.toNatClampNeg (x2)) fun σ7 =>
  if x3 ≤ (0 : Int32) then
  (some ((0 : Int32), σ7))
  else
  (some ((1 : Int32), σ7))) fun j5 =>
  if (3 : Int32) ≤ x3 then
  (j5 ())
  else
  (z_b1 (f_X10_signAt (σ4 0 14) σ4) fun r11 =>
  z_b1 (f_X10_in r11 (48 : Int32) (57 : Int32) σ4) fun r13 =>
  if r13 = (0 : Int32) then
  (j5 ())
  else
  (z_b1 (f_X10_signAt (σ4 0 14) σ4) fun r16 =>
  z_let ((((10 : Int32) * x2) + r16) - (48 : Int32)) fun x17 =>
  z_let (z_u σ4 0 14 ((σ4 0 14) + (1 : Int32))) fun σ18 =>
  z_let (x3 + (1 : Int32)) fun x19 =>
  k1 x17 x19 σ18))
def f_X10_readsNumber (p1 : Int32) (σ : z_S) : Option (Int32 × z_S) :=
  z_lp3 (lb_X10_readsNumber_4 p1) z_Fu (0 : Int32) (0 : Int32) σ
def lb_X10_reads_88 (y5 : Int32) (k9 : Int32 → Int32 → z_S → Option (Int32 × z_S)) (x10 : Int32) (x11 : Int32) (σ12 : z_S) : Option (Int32 × z_S) :=
  z_let (fun (_ : Unit) => z_let (fun (y14 : Int32) => z_let (z_u σ12 0 14 ((σ12 0 14) + (1 : Int32))) fun σ16 =>
  z_ckz (y14) <|
  some (y14, σ16)) fun j15 =>
  z_let (fun (_ : Unit) => j15 (0 : Int32)) fun j18 =>
  if x10 = (0 : Int32) then
  (j18 ())
  else
  (z_b1 (f_X10_signAt (σ12 0 14) σ12) fun r21 =>
  if r21 = (59 : Int32) then
  (j15 (1 : Int32))
  else
  (j18 ()))) fun j13 =>
  if y5 ≤ x11 then
  (j13 ())
  else
  (if x10 = (0 : Int32) then
  (j13 ())
  else
  (z_let (fun (y25 : Int32) (σ26 : z_S) => z_let (fun (y28 : Int32) (σ29 : z_S) => z_let (x11 + (1 : Int32)) fun x31 =>
  k9 y28 x31 σ29) fun j30 =>
  z_let (fun (σ32 : z_S) => j30 (0 : Int32) σ32) fun j33 =>
  if y25 = (0 : Int32) then
  (j33 σ26)
  else
  (z_b2 (f_X10_readsNumber x11 σ26) fun r37 σ36 =>
  if r37 = (0 : Int32) then
  (j33 σ36)
  else
  (j30 (1 : Int32) σ36))) fun j27 =>
  if x11 ≤ (0 : Int32) then
  (j27 x10 σ12)
  else
  (z_b1 (f_X10_signAt (σ12 0 14) σ12) fun r41 =>
  z_let (fun (y42 : Int32) => z_let (z_u σ12 0 14 ((σ12 0 14) + (1 : Int32))) fun σ44 =>
  j27 y42 σ44) fun j43 =>
  if r41 = (44 : Int32) then
  (j43 (1 : Int32))
  else
  (j43 (0 : Int32)))))
def f_X10_reads (p1 : Int32) (σ : z_S) : Option (Int32 × z_S) :=
  z_b1 (f_X10_signAt p1 σ) fun r2 =>
  z_let (z_u σ 0 15 (r2)) fun σ3 =>
  z_let (z_u σ3 0 14 (p1 + (1 : Int32))) fun σ4 =>
  z_let (fun (y5 : Int32) => z_let (fun (y7 : Int32) => z_lp3 (lb_X10_reads_88 y5) z_Fu y7 (0 : Int32) σ4) fun j8 =>
  if y5 ≤ (0 : Int32) then
  (j8 (0 : Int32))
  else
  (j8 (1 : Int32))) fun j6 =>
  if (σ4 0 15) = (112 : Int32) then
  (j6 (3 : Int32))
  else
  (z_let (fun (_ : Unit) => j6 (2 : Int32)) fun j48 =>
  if (σ4 0 15) = (103 : Int32) then
  (j48 ())
  else
  (if (σ4 0 15) = (98 : Int32) then
  (j48 ())
  else
  (z_let (fun (_ : Unit) => j6 (1 : Int32)) fun j51 =>
  if (σ4 0 15) = (110 : Int32) then
  (j51 ())
  else
  (if (σ4 0 15) = (100 : Int32) then
  (j51 ())
  else
  (j6 (0 : Int32))))))
def f_X10_does (σ : z_S) : Option (Int32 × z_S) :=
  if (σ 0 15) = (98 : Int32) then
  (z_cki (0 : Int32) 3 <|
  z_cki (1 : Int32) 3 <|
  z_b2 (f_X10_addsBiscuits (σ 9 (0 : Int32).toNatClampNeg) (σ 9 (1 : Int32).toNatClampNeg) σ) fun r6 σ5 =>
  some (r6, σ5))
  else if (σ 0 15) = (103 : Int32) then
  (z_cki (0 : Int32) 3 <|
  z_cki (1 : Int32) 3 <|
  z_b2 (f_X10_gives (σ 9 (0 : Int32).toNatClampNeg) (σ 9 (1 : Int32).toNatClampNeg) σ) fun r12 σ11 =>
  some (r12, σ11))
  else if (σ 0 15) = (110 : Int32) then
  (z_cki (0 : Int32) 3 <|
  z_b2 (f_X10_givesNone (σ 9 (0 : Int32).toNatClampNeg) σ) fun r17 σ16 =>
  some (r17, σ16))
  else if (σ 0 15) = (112 : Int32) then
  (z_cki (0 : Int32) 3 <|
  z_cki (1 : Int32) 3 <|
  z_cki (2 : Int32) 3 <|
  z_b2 (f_X10_pauses (σ 9 (0 : Int32).toNatClampNeg) (σ 9 (1 : Int32).toNatClampNeg) (σ 9 (2 : Int32).toNatClampNeg) σ) fun r24 σ23 =>
  some (r24, σ23))
  else (z_cki (0 : Int32) 3 <|
  z_b2 (f_X10_daysGo (σ 9 (0 : Int32).toNatClampNeg) σ) fun r28 σ27 =>
  some (r28, σ27))
def lb_X10_doesAll_13 (k3 : Int32 → z_S → Option (Int32 × z_S)) (x4 : Int32) (σ5 : z_S) : Option (Int32 × z_S) :=
  if (σ5 0 6) ≤ x4 then
  (some ((0 : Int32), σ5))
  else
  (z_let (z_u σ5 0 18 (x4)) fun σ7 =>
  z_b2 (f_X10_reads x4 σ7) fun r10 σ9 =>
  if r10 = (0 : Int32) then
  (some ((1 : Int32), σ9))
  else
  (z_b2 (f_X10_does σ9) fun r14 σ13 =>
  if (0 : Int32) ≤ r14 then
  (z_let (z_u σ13 0 17 ((σ13 0 17) + (1 : Int32))) fun σ16 =>
  z_let (σ16 0 14) fun x17 =>
  k3 x17 σ16)
  else
  (z_let (z_u σ13 0 19 (r14)) fun σ18 =>
  some ((2 : Int32), σ18))))
def f_X10_doesAll (σ : z_S) : Option (Int32 × z_S) :=
  z_let (z_u σ 0 17 ((0 : Int32))) fun σ1 =>
  z_let (z_u σ1 0 19 ((-4 : Int32))) fun σ2 =>
  z_lp2 lb_X10_doesAll_13 z_Fu (0 : Int32) σ2
def f_X10_looks (σ : z_S) : Option (Int32 × z_S) :=
  z_b1 (f_X10_copies 537 537 (0 : Int32) (0 : Int32) (fun k => σ (zi2 1 4 k))) fun σ2 =>
  z_let (z_m σ (zk2 1 4) 2 σ2) fun σ3 =>
  z_b2 (f_X10_doesAll σ3) fun r6 σ5 =>
  z_b1 (f_X10_copies 537 537 (0 : Int32) (0 : Int32) (fun k => σ5 (zi2 4 1 k))) fun σ8 =>
  z_let (z_m σ5 (zk2 4 1) 2 σ8) fun σ9 =>
  some (r6, σ9)
def f_X10_fault (p1 : Int32) (σ : z_S) : Option (Int32 × z_S) :=
  z_b1 (f_X10_in p1 (0 : Int32) (2 : Int32) σ) fun r2 =>
  if r2 = (0 : Int32) then
  (some ((-1 : Int32), σ))
  else
  (z_b2 (f_X10_looks σ) fun r6 σ5 =>
  if r6 = (0 : Int32) then
  (some ((-4 : Int32), σ5))
  else
  (if p1 = (0 : Int32) then
  (some (σ5 0 18, σ5))
  else
  (if p1 = (1 : Int32) then
  (some (r6, σ5))
  else
  (some (σ5 0 19, σ5)))))
def f_X10_play (σ : z_S) : Option (Int32 × z_S) :=
  z_b2 (f_X10_looks σ) fun r3 σ2 =>
  if r3 = (0 : Int32) then
  (z_b1 (f_X10_notes σ2) fun σ6 =>
  z_b2 (f_X10_doesAll σ6) fun r9 σ8 =>
  z_let (fun (y10 : Int32) => z_b2 (f_X10_ends y10 σ8) fun r14 σ13 =>
  some (r14, σ13)) fun j11 =>
  if r9 = (0 : Int32) then
  (j11 (σ8 0 17))
  else
  (j11 (-2 : Int32)))
  else
  (some ((-2 : Int32), σ2))
