def zf_Draft_init (n : Nat) (s0 : zh_S) (a0 : Nat) : Option zh_S :=
  if ¬ (200 : Int32) < 0 ∧ (200 : Int32).toNatClampNeg ≤ 1000 then
  zk_l (zh_N s0) fun a_2 =>
  zk_l (zh_new s0 (0, (200 : Int32).toNatClampNeg) ((200 : Int32).toNatClampNeg)) fun s_1 =>
  if zh_oo s_1 a0 1 then
  zk_l (zh_uR s_1 a0 0 (some a_2)) fun s_4 =>
  zk_l (zh_uI s_4 a0 1 (0 : Int32)) fun s_6 =>
  some s_6
  else none
  else none
def zf_Tool_init (n : Nat) (s0 : zh_S) (a0 : Nat) : Option zh_S :=
  if ¬ (13 : Int32) < 0 ∧ (13 : Int32).toNatClampNeg ≤ 1000 then
  zk_l (zh_N s0) fun a_2 =>
  zk_l (zh_new s0 (1, (13 : Int32).toNatClampNeg) ((13 : Int32).toNatClampNeg)) fun s_1 =>
  if zh_oa s_1 a_2 1 (0 : Int32) then
  zk_l (zh_uJ s_1 a_2 ((0 : Int32).toNatClampNeg) (1 : Int64)) fun s_4 =>
  if zh_oa s_4 a_2 1 (1 : Int32) then
  zk_l (zh_uJ s_4 a_2 ((1 : Int32).toNatClampNeg) (1 : Int64)) fun s_6 =>
  if zh_oa s_6 a_2 1 (2 : Int32) then
  zk_l (zh_uJ s_6 a_2 ((2 : Int32).toNatClampNeg) (0 : Int64)) fun s_8 =>
  if zh_oa s_8 a_2 1 (3 : Int32) then
  zk_l (zh_uJ s_8 a_2 ((3 : Int32).toNatClampNeg) (1000 : Int64)) fun s_10 =>
  if zh_oa s_10 a_2 1 (4 : Int32) then
  zk_l (zh_uJ s_10 a_2 ((4 : Int32).toNatClampNeg) (1 : Int64)) fun s_12 =>
  if zh_oa s_12 a_2 1 (5 : Int32) then
  zk_l (zh_uJ s_12 a_2 ((5 : Int32).toNatClampNeg) (0 : Int64)) fun s_14 =>
  if zh_oa s_14 a_2 1 (6 : Int32) then
  zk_l (zh_uJ s_14 a_2 ((6 : Int32).toNatClampNeg) (-1 : Int64)) fun s_16 =>
  if zh_oa s_16 a_2 1 (7 : Int32) then
  zk_l (zh_uJ s_16 a_2 ((7 : Int32).toNatClampNeg) (-1 : Int64)) fun s_18 =>
  if zh_oa s_18 a_2 1 (8 : Int32) then
  zk_l (zh_uJ s_18 a_2 ((8 : Int32).toNatClampNeg) (-1 : Int64)) fun s_20 =>
  if zh_oa s_20 a_2 1 (9 : Int32) then
  zk_l (zh_uJ s_20 a_2 ((9 : Int32).toNatClampNeg) (0 : Int64)) fun s_22 =>
  if zh_oa s_22 a_2 1 (10 : Int32) then
  zk_l (zh_uJ s_22 a_2 ((10 : Int32).toNatClampNeg) (0 : Int64)) fun s_24 =>
  if zh_oa s_24 a_2 1 (11 : Int32) then
  zk_l (zh_uJ s_24 a_2 ((11 : Int32).toNatClampNeg) (0 : Int64)) fun s_26 =>
  if zh_oa s_26 a_2 1 (12 : Int32) then
  zk_l (zh_uJ s_26 a_2 ((12 : Int32).toNatClampNeg) (0 : Int64)) fun s_28 =>
  if zh_oo s_28 a0 6 then
  zk_l (zh_uR s_28 a0 0 (some a_2)) fun s_30 =>
  if ¬ (4 : Int32) < 0 ∧ (4 : Int32).toNatClampNeg ≤ 1000 then
  zk_l (zh_N s_30) fun a_33 =>
  zk_l (zh_new s_30 (1, (4 : Int32).toNatClampNeg) ((4 : Int32).toNatClampNeg)) fun s_32 =>
  if zh_oo s_32 a0 6 then
  zk_l (zh_uR s_32 a0 1 (some a_33)) fun s_35 =>
  if ¬ (4 : Int32) < 0 ∧ (4 : Int32).toNatClampNeg ≤ 1000 then
  zk_l (zh_N s_35) fun a_38 =>
  zk_l (zh_new s_35 (1, (4 : Int32).toNatClampNeg) ((4 : Int32).toNatClampNeg)) fun s_37 =>
  if zh_oo s_37 a0 6 then
  zk_l (zh_uR s_37 a0 2 (some a_38)) fun s_40 =>
  zk_l (zh_uI s_40 a0 3 (0 : Int32)) fun s_42 =>
  some s_42
  else none
  else none
  else none
  else none
  else none
  else none
  else none
  else none
  else none
  else none
  else none
  else none
  else none
  else none
  else none
  else none
  else none
  else none
  else none
def zf_Signed_init_R (n : Nat) (s0 : zh_S) (a0 : Nat) : Option zh_S :=
  if zh_oo s0 a0 3 then
  zk_l (zh_uI s0 a0 5 (0 : Int32)) fun s_1 =>
  some s_1
  else none
def zf_RevokedList_init (n : Nat) (s0 : zh_S) (a0 : Nat) : Option zh_S :=
  zk_p (zf_Signed_init_R n s0 a0) fun s_1 =>
  if ¬ (4 : Int32) < 0 ∧ (4 : Int32).toNatClampNeg ≤ 1000 then
  zk_l (zh_N s_1) fun a_3 =>
  zk_l (zh_new s_1 (1, (4 : Int32).toNatClampNeg) ((4 : Int32).toNatClampNeg)) fun s_2 =>
  if zh_oo s_2 a0 3 then
  zk_l (zh_uR s_2 a0 6 (some a_3)) fun s_5 =>
  if ¬ (4 : Int32) < 0 ∧ (4 : Int32).toNatClampNeg ≤ 1000 then
  zk_l (zh_N s_5) fun a_8 =>
  zk_l (zh_new s_5 (1, (4 : Int32).toNatClampNeg) ((4 : Int32).toNatClampNeg)) fun s_7 =>
  if zh_oo s_7 a0 3 then
  zk_l (zh_uR s_7 a0 7 (some a_8)) fun s_10 =>
  some s_10
  else none
  else none
  else none
  else none
def zf_Signed_init_C (n : Nat) (s0 : zh_S) (a0 : Nat) : Option zh_S :=
  if zh_oo s0 a0 0 then
  zk_l (zh_uI s0 a0 5 (0 : Int32)) fun s_1 =>
  some s_1
  else none
def zf_Certificate_init (n : Nat) (s0 : zh_S) (a0 : Nat) : Option zh_S :=
  zk_p (zf_Signed_init_C n s0 a0) fun s_1 =>
  some s_1
def zl_Shelf_init_64 (n : Nat) : Nat → zh_S → Nat → Int32 → Option zh_S
  | 0, _, _, _ => none
  | k + 1, s0, a0, i1 =>
    if zh_oo s0 a0 5 then
    zk_p (zh_R s0 a0 1) fun a_2 =>
    if zh_ol s0 a_2 4 then
    if (Int32.ofNat (zh_K s0 a_2).2) ≤ i1 then
      some s0
    else
      zk_p (zh_R s0 a0 1) fun a_5 =>
      zk_l (zh_N s0) fun a_8 =>
      zk_l (zh_new s0 (2, 3) 9) fun s_7 =>
      zk_p (zf_RevokedList_init n s_7 a_8) fun s_9 =>
      if zh_oo s_9 a_8 3 then
      if zh_oa s_9 a_5 4 i1 then
      zk_l (zh_uR s_9 a_5 (i1.toNatClampNeg) (some a_8)) fun s_10 =>
      zk_l (i1 + (1 : Int32)) fun i_13 =>
      zl_Shelf_init_64 n k s_10 a0 i_13
      else none
      else none
    else none
    else none
def zl_Shelf_init_34 (n : Nat) : Nat → zh_S → Nat → Int32 → Option zh_S
  | 0, _, _, _ => none
  | k + 1, s0, a0, i1 =>
    if zh_oo s0 a0 5 then
    zk_p (zh_R s0 a0 0) fun a_2 =>
    if zh_ol s0 a_2 3 then
    if (Int32.ofNat (zh_K s0 a_2).2) ≤ i1 then
      zl_Shelf_init_64 n n s0 a0 (0 : Int32)
    else
      zk_p (zh_R s0 a0 0) fun a_5 =>
      zk_l (zh_N s0) fun a_8 =>
      zk_l (zh_new s0 (2, 0) 19) fun s_7 =>
      zk_p (zf_Certificate_init n s_7 a_8) fun s_9 =>
      if zh_oo s_9 a_8 0 then
      if zh_oa s_9 a_5 3 i1 then
      zk_l (zh_uR s_9 a_5 (i1.toNatClampNeg) (some a_8)) fun s_10 =>
      zk_l (i1 + (1 : Int32)) fun i_13 =>
      zl_Shelf_init_34 n k s_10 a0 i_13
      else none
      else none
    else none
    else none
def zf_Shelf_init (n : Nat) (s0 : zh_S) (a0 : Nat) : Option zh_S :=
  if ¬ (13 : Int32) < 0 ∧ (13 : Int32).toNatClampNeg ≤ 1000 then
  zk_l (zh_N s0) fun a_2 =>
  zk_l (zh_new s0 (3, (13 : Int32).toNatClampNeg) ((13 : Int32).toNatClampNeg)) fun s_1 =>
  if zh_oo s_1 a0 5 then
  zk_l (zh_uR s_1 a0 0 (some a_2)) fun s_4 =>
  if ¬ (7 : Int32) < 0 ∧ (7 : Int32).toNatClampNeg ≤ 1000 then
  zk_l (zh_N s_4) fun a_7 =>
  zk_l (zh_new s_4 (4, (7 : Int32).toNatClampNeg) ((7 : Int32).toNatClampNeg)) fun s_6 =>
  if zh_oo s_6 a0 5 then
  zk_l (zh_uR s_6 a0 1 (some a_7)) fun s_9 =>
  zk_l (zh_uI s_9 a0 2 (0 : Int32)) fun s_11 =>
  zk_l (zh_uI s_11 a0 3 (0 : Int32)) fun s_12 =>
  zl_Shelf_init_34 n n s_12 a0 (0 : Int32)
  else none
  else none
  else none
  else none
def zf_V_init (n : Nat) (s0 : zh_S) (a0 : Nat) : Option zh_S :=
  zk_l (zh_N s0) fun a_2 =>
  zk_l (zh_new s0 (2, 1) 2) fun s_1 =>
  zk_p (zf_Draft_init n s_1 a_2) fun s_3 =>
  if zh_oo s_3 a0 7 then
  zk_l (zh_uR s_3 a0 0 (some a_2)) fun s_4 =>
  zk_l (zh_N s_4) fun a_7 =>
  zk_l (zh_new s_4 (2, 6) 4) fun s_6 =>
  zk_p (zf_Tool_init n s_6 a_7) fun s_8 =>
  if zh_oo s_8 a0 7 then
  zk_l (zh_uR s_8 a0 1 (some a_7)) fun s_9 =>
  zk_l (zh_N s_9) fun a_12 =>
  zk_l (zh_new s_9 (2, 5) 4) fun s_11 =>
  zk_p (zf_Shelf_init n s_11 a_12) fun s_13 =>
  if zh_oo s_13 a0 7 then
  zk_l (zh_uR s_13 a0 2 (some a_12)) fun s_14 =>
  zk_l (zh_uR s_14 a0 3 none) fun s_16 =>
  some s_16
  else none
  else none
  else none
def zf_M_init (n : Nat) (s0 : zh_S) (a0 : Nat) : Option zh_S :=
  if ¬ (200 : Int32) < 0 ∧ (200 : Int32).toNatClampNeg ≤ 1000 then
  zk_l (zh_N s0) fun a_2 =>
  zk_l (zh_new s0 (0, (200 : Int32).toNatClampNeg) ((200 : Int32).toNatClampNeg)) fun s_1 =>
  if zh_oo s_1 a0 8 then
  zk_l (zh_uR s_1 a0 0 (some a_2)) fun s_4 =>
  if ¬ (13 : Int32) < 0 ∧ (13 : Int32).toNatClampNeg ≤ 1000 then
  zk_l (zh_N s_4) fun a_7 =>
  zk_l (zh_new s_4 (1, (13 : Int32).toNatClampNeg) ((13 : Int32).toNatClampNeg)) fun s_6 =>
  if zh_oo s_6 a0 8 then
  zk_l (zh_uR s_6 a0 2 (some a_7)) fun s_9 =>
  if ¬ (4 : Int32) < 0 ∧ (4 : Int32).toNatClampNeg ≤ 1000 then
  zk_l (zh_N s_9) fun a_12 =>
  zk_l (zh_new s_9 (1, (4 : Int32).toNatClampNeg) ((4 : Int32).toNatClampNeg)) fun s_11 =>
  if zh_oo s_11 a0 8 then
  zk_l (zh_uR s_11 a0 4 (some a_12)) fun s_14 =>
  if ¬ (4 : Int32) < 0 ∧ (4 : Int32).toNatClampNeg ≤ 1000 then
  zk_l (zh_N s_14) fun a_17 =>
  zk_l (zh_new s_14 (1, (4 : Int32).toNatClampNeg) ((4 : Int32).toNatClampNeg)) fun s_16 =>
  if zh_oo s_16 a0 8 then
  zk_l (zh_uR s_16 a0 5 (some a_17)) fun s_19 =>
  if ¬ (6 : Int32) < 0 ∧ (6 : Int32).toNatClampNeg ≤ 1000 then
  zk_l (zh_N s_19) fun a_22 =>
  zk_l (zh_new s_19 (1, (6 : Int32).toNatClampNeg) ((6 : Int32).toNatClampNeg)) fun s_21 =>
  if zh_oa s_21 a_22 1 (0 : Int32) then
  zk_l (zh_uJ s_21 a_22 ((0 : Int32).toNatClampNeg) (1200000049400000287 : Int64)) fun s_24 =>
  if zh_oa s_24 a_22 1 (1 : Int32) then
  zk_l (zh_uJ s_24 a_22 ((1 : Int32).toNatClampNeg) (1430000491000037023 : Int64)) fun s_26 =>
  if zh_oa s_26 a_22 1 (2 : Int32) then
  zk_l (zh_uJ s_26 a_22 ((2 : Int32).toNatClampNeg) (1536351190290809371 : Int64)) fun s_28 =>
  if zh_oa s_28 a_22 1 (3 : Int32) then
  zk_l (zh_uJ s_28 a_22 ((3 : Int32).toNatClampNeg) (1728395075795061493 : Int64)) fun s_30 =>
  if zh_oa s_30 a_22 1 (4 : Int32) then
  zk_l (zh_uJ s_30 a_22 ((4 : Int32).toNatClampNeg) (1697785988597898509 : Int64)) fun s_32 =>
  if zh_oa s_32 a_22 1 (5 : Int32) then
  zk_l (zh_uJ s_32 a_22 ((5 : Int32).toNatClampNeg) (1597490175708938519 : Int64)) fun s_34 =>
  if zh_oo s_34 a0 8 then
  zk_l (zh_uR s_34 a0 6 (some a_22)) fun s_36 =>
  if ¬ (6 : Int32) < 0 ∧ (6 : Int32).toNatClampNeg ≤ 1000 then
  zk_l (zh_N s_36) fun a_39 =>
  zk_l (zh_new s_36 (1, (6 : Int32).toNatClampNeg) ((6 : Int32).toNatClampNeg)) fun s_38 =>
  if zh_oa s_38 a_39 1 (0 : Int32) then
  zk_l (zh_uJ s_38 a_39 ((0 : Int32).toNatClampNeg) (3 : Int64)) fun s_41 =>
  if zh_oa s_41 a_39 1 (1 : Int32) then
  zk_l (zh_uJ s_41 a_39 ((1 : Int32).toNatClampNeg) (17 : Int64)) fun s_43 =>
  if zh_oa s_43 a_39 1 (2 : Int32) then
  zk_l (zh_uJ s_43 a_39 ((2 : Int32).toNatClampNeg) (257 : Int64)) fun s_45 =>
  if zh_oa s_45 a_39 1 (3 : Int32) then
  zk_l (zh_uJ s_45 a_39 ((3 : Int32).toNatClampNeg) (65537 : Int64)) fun s_47 =>
  if zh_oa s_47 a_39 1 (4 : Int32) then
  zk_l (zh_uJ s_47 a_39 ((4 : Int32).toNatClampNeg) (5 : Int64)) fun s_49 =>
  if zh_oa s_49 a_39 1 (5 : Int32) then
  zk_l (zh_uJ s_49 a_39 ((5 : Int32).toNatClampNeg) (11 : Int64)) fun s_51 =>
  if zh_oo s_51 a0 8 then
  zk_l (zh_uR s_51 a0 7 (some a_39)) fun s_53 =>
  if ¬ (6 : Int32) < 0 ∧ (6 : Int32).toNatClampNeg ≤ 1000 then
  zk_l (zh_N s_53) fun a_56 =>
  zk_l (zh_new s_53 (1, (6 : Int32).toNatClampNeg) ((6 : Int32).toNatClampNeg)) fun s_55 =>
  if zh_oa s_55 a_56 1 (0 : Int32) then
  zk_l (zh_uJ s_55 a_56 ((0 : Int32).toNatClampNeg) (800000031466666827 : Int64)) fun s_58 =>
  if zh_oa s_58 a_56 1 (1 : Int32) then
  zk_l (zh_uJ s_58 a_56 ((1 : Int32).toNatClampNeg) (84117675800002153 : Int64)) fun s_60 =>
  if zh_oa s_60 a_56 1 (2 : Int32) then
  zk_l (zh_uJ s_60 a_56 ((2 : Int32).toNatClampNeg) (579867958021467505 : Int64)) fun s_62 =>
  if zh_oa s_62 a_56 1 (3 : Int32) then
  zk_l (zh_uJ s_62 a_56 ((3 : Int32).toNatClampNeg) (1604812069470515813 : Int64)) fun s_64 =>
  if zh_oa s_64 a_56 1 (4 : Int32) then
  zk_l (zh_uJ s_64 a_56 ((4 : Int32).toNatClampNeg) (339557197186246361 : Int64)) fun s_66 =>
  if zh_oa s_66 a_56 1 (5 : Int32) then
  zk_l (zh_uJ s_66 a_56 ((5 : Int32).toNatClampNeg) (1161811034953791779 : Int64)) fun s_68 =>
  if zh_oo s_68 a0 8 then
  zk_l (zh_uR s_68 a0 8 (some a_56)) fun s_70 =>
  if ¬ (15 : Int32) < 0 ∧ (15 : Int32).toNatClampNeg ≤ 1000 then
  zk_l (zh_N s_70) fun a_73 =>
  zk_l (zh_new s_70 (1, (15 : Int32).toNatClampNeg) ((15 : Int32).toNatClampNeg)) fun s_72 =>
  if zh_oo s_72 a0 8 then
  zk_l (zh_uR s_72 a0 11 (some a_73)) fun s_75 =>
  if ¬ (4 : Int32) < 0 ∧ (4 : Int32).toNatClampNeg ≤ 1000 then
  zk_l (zh_N s_75) fun a_78 =>
  zk_l (zh_new s_75 (1, (4 : Int32).toNatClampNeg) ((4 : Int32).toNatClampNeg)) fun s_77 =>
  if zh_oo s_77 a0 8 then
  zk_l (zh_uR s_77 a0 13 (some a_78)) fun s_80 =>
  if ¬ (4 : Int32) < 0 ∧ (4 : Int32).toNatClampNeg ≤ 1000 then
  zk_l (zh_N s_80) fun a_83 =>
  zk_l (zh_new s_80 (1, (4 : Int32).toNatClampNeg) ((4 : Int32).toNatClampNeg)) fun s_82 =>
  if zh_oo s_82 a0 8 then
  zk_l (zh_uR s_82 a0 14 (some a_83)) fun s_85 =>
  if ¬ (180 : Int32) < 0 ∧ (180 : Int32).toNatClampNeg ≤ 1000 then
  zk_l (zh_N s_85) fun a_88 =>
  zk_l (zh_new s_85 (1, (180 : Int32).toNatClampNeg) ((180 : Int32).toNatClampNeg)) fun s_87 =>
  if zh_oo s_87 a0 8 then
  zk_l (zh_uR s_87 a0 16 (some a_88)) fun s_90 =>
  if ¬ (36 : Int32) < 0 ∧ (36 : Int32).toNatClampNeg ≤ 1000 then
  zk_l (zh_N s_90) fun a_93 =>
  zk_l (zh_new s_90 (1, (36 : Int32).toNatClampNeg) ((36 : Int32).toNatClampNeg)) fun s_92 =>
  if zh_oo s_92 a0 8 then
  zk_l (zh_uR s_92 a0 18 (some a_93)) fun s_95 =>
  if ¬ (24 : Int32) < 0 ∧ (24 : Int32).toNatClampNeg ≤ 1000 then
  zk_l (zh_N s_95) fun a_98 =>
  zk_l (zh_new s_95 (1, (24 : Int32).toNatClampNeg) ((24 : Int32).toNatClampNeg)) fun s_97 =>
  if zh_oo s_97 a0 8 then
  zk_l (zh_uR s_97 a0 19 (some a_98)) fun s_100 =>
  if ¬ (24 : Int32) < 0 ∧ (24 : Int32).toNatClampNeg ≤ 1000 then
  zk_l (zh_N s_100) fun a_103 =>
  zk_l (zh_new s_100 (1, (24 : Int32).toNatClampNeg) ((24 : Int32).toNatClampNeg)) fun s_102 =>
  if zh_oo s_102 a0 8 then
  zk_l (zh_uR s_102 a0 20 (some a_103)) fun s_105 =>
  if ¬ (5 : Int32) < 0 ∧ (5 : Int32).toNatClampNeg ≤ 1000 then
  zk_l (zh_N s_105) fun a_108 =>
  zk_l (zh_new s_105 (0, (5 : Int32).toNatClampNeg) ((5 : Int32).toNatClampNeg)) fun s_107 =>
  if zh_oo s_107 a0 8 then
  zk_l (zh_uR s_107 a0 21 (some a_108)) fun s_110 =>
  if ¬ (5 : Int32) < 0 ∧ (5 : Int32).toNatClampNeg ≤ 1000 then
  zk_l (zh_N s_110) fun a_113 =>
  zk_l (zh_new s_110 (0, (5 : Int32).toNatClampNeg) ((5 : Int32).toNatClampNeg)) fun s_112 =>
  if zh_oo s_112 a0 8 then
  zk_l (zh_uR s_112 a0 22 (some a_113)) fun s_115 =>
  if ¬ (5 : Int32) < 0 ∧ (5 : Int32).toNatClampNeg ≤ 1000 then
  zk_l (zh_N s_115) fun a_118 =>
  zk_l (zh_new s_115 (0, (5 : Int32).toNatClampNeg) ((5 : Int32).toNatClampNeg)) fun s_117 =>
  if zh_oo s_117 a0 8 then
  zk_l (zh_uR s_117 a0 23 (some a_118)) fun s_120 =>
  zk_p (zh_R s_120 a0 2) fun a_122 =>
  if zh_oa s_120 a_122 1 (0 : Int32) then
  zk_l (zh_uJ s_120 a_122 ((0 : Int32).toNatClampNeg) (1 : Int64)) fun s_124 =>
  if zh_oo s_124 a0 8 then
  zk_p (zh_R s_124 a0 2) fun a_127 =>
  if zh_oa s_124 a_127 1 (1 : Int32) then
  zk_l (zh_uJ s_124 a_127 ((1 : Int32).toNatClampNeg) (1 : Int64)) fun s_129 =>
  if zh_oo s_129 a0 8 then
  zk_p (zh_R s_129 a0 2) fun a_132 =>
  if zh_oa s_129 a_132 1 (3 : Int32) then
  zk_l (zh_uJ s_129 a_132 ((3 : Int32).toNatClampNeg) (1000 : Int64)) fun s_134 =>
  if zh_oo s_134 a0 8 then
  zk_p (zh_R s_134 a0 2) fun a_137 =>
  if zh_oa s_134 a_137 1 (4 : Int32) then
  zk_l (zh_uJ s_134 a_137 ((4 : Int32).toNatClampNeg) (1 : Int64)) fun s_139 =>
  if zh_oo s_139 a0 8 then
  zk_p (zh_R s_139 a0 2) fun a_142 =>
  if zh_oa s_139 a_142 1 (6 : Int32) then
  zk_l (zh_uJ s_139 a_142 ((6 : Int32).toNatClampNeg) (-1 : Int64)) fun s_144 =>
  if zh_oo s_144 a0 8 then
  zk_p (zh_R s_144 a0 2) fun a_147 =>
  if zh_oa s_144 a_147 1 (7 : Int32) then
  zk_l (zh_uJ s_144 a_147 ((7 : Int32).toNatClampNeg) (-1 : Int64)) fun s_149 =>
  if zh_oo s_149 a0 8 then
  zk_p (zh_R s_149 a0 2) fun a_152 =>
  if zh_oa s_149 a_152 1 (8 : Int32) then
  zk_l (zh_uJ s_149 a_152 ((8 : Int32).toNatClampNeg) (-1 : Int64)) fun s_154 =>
  some s_154
  else none
  else none
  else none
  else none
  else none
  else none
  else none
  else none
  else none
  else none
  else none
  else none
  else none
  else none
  else none
  else none
  else none
  else none
  else none
  else none
  else none
  else none
  else none
  else none
  else none
  else none
  else none
  else none
  else none
  else none
  else none
  else none
  else none
  else none
  else none
  else none
  else none
  else none
  else none
  else none
  else none
  else none
  else none
  else none
  else none
  else none
  else none
  else none
  else none
  else none
  else none
  else none
  else none
  else none
  else none
  else none
  else none
  else none
  else none
  else none
  else none
  else none
  else none
  else none
  else none
def zf_Numbers_lift (n : Nat) (j0 : Int64) (j2 : Int64) : Option Int64 :=
  if ¬ ((j2 >>> ((31 : Int32).toInt64 &&& 63)) + (1 : Int64)) = 0 then
  zk_l ((j0 / ((j2 >>> ((31 : Int32).toInt64 &&& 63)) + (1 : Int64)))) fun j_2 =>
  if ¬ j2 = 0 then
  some (((j0 <<< ((31 : Int32).toInt64 &&& 63)) - (j_2 * j2)) - ((j0 <<< ((31 : Int32).toInt64 &&& 63)) - (j_2 * j2)) / j2 * j2)
  else none
  else none
def zf_Numbers_times (n : Nat) (j0 : Int64) (j2 : Int64) (j4 : Int64) : Option Int64 :=
  zk_l ((j0 >>> ((31 : Int32).toInt64 &&& 63))) fun j_1 =>
  zk_l ((j0 &&& (2147483647 : Int64))) fun j_2 =>
  zk_l ((j2 >>> ((31 : Int32).toInt64 &&& 63))) fun j_3 =>
  zk_l ((j2 &&& (2147483647 : Int64))) fun j_4 =>
  if ¬ j4 = 0 then
  zk_p (zf_Numbers_lift n ((j_1 * j_3) - (j_1 * j_3) / j4 * j4) j4) fun j_6 =>
  if ¬ j4 = 0 then
  zk_l ((((j_1 * j_4) + (j_2 * j_3)) - ((j_1 * j_4) + (j_2 * j_3)) / j4 * j4)) fun j_8 =>
  if ¬ j4 = 0 then
  zk_p (zf_Numbers_lift n ((j_6 + j_8) - (j_6 + j_8) / j4 * j4) j4) fun j_10 =>
  if ¬ j4 = 0 then
  if ¬ j4 = 0 then
  some ((j_10 + ((j_2 * j_4) - (j_2 * j_4) / j4 * j4)) - (j_10 + ((j_2 * j_4) - (j_2 * j_4) / j4 * j4)) / j4 * j4)
  else none
  else none
  else none
  else none
  else none
def zb_Numbers_power_36 (n : Nat) (r9 : Int64 → Int64 → Int64 → Int64 → Option Int64) (j4 : Int64) (j6 : Int64) (j8 : Int64) (j10 : Int64) : Option Int64 :=
  zk_p (zf_Numbers_times n j8 j8 j4) fun j_1 =>
  zk_l ((j10 >>> ((1 : Int32).toInt64 &&& 63))) fun j_2 =>
  r9 j4 j6 j_1 j_2
def zl_Numbers_power_9 (n : Nat) : Nat → Int64 → Int64 → Int64 → Int64 → Option Int64
  | 0, _, _, _, _ => none
  | k + 1, j4, j6, j8, j10 =>
    if (lg_cmp j10 (0 : Int64)) ≤ 0 then
      some j6
    else
      if (lg_cmp (j10 &&& (1 : Int64)) (1 : Int64)) = 0 then
        zk_p (zf_Numbers_times n j6 j8 j4) fun j_1 =>
        zb_Numbers_power_36 n (zl_Numbers_power_9 n k) j4 j_1 j8 j10
      else
        zb_Numbers_power_36 n (zl_Numbers_power_9 n k) j4 j6 j8 j10
def zf_Numbers_power (n : Nat) (j0 : Int64) (j2 : Int64) (j4 : Int64) : Option Int64 :=
  zl_Numbers_power_9 n n j4 (1 : Int64) j0 j2
def zf_Numbers_block (n : Nat) (i0 : Int32) : Option Int64 :=
  some ((561850441793536 : Int64) + (i0.toInt64 &&& (4294967295 : Int64)))
def zf_Numbers_isGood (n : Nat) (j0 : Int64) (j2 : Int64) (j4 : Int64) (i6 : Int32) : Option Int32 :=
  if (lg_cmp j2 (144115188075855872 : Int64)) < 0 then
    some (0 : Int32)
  else
    if 0 < (lg_cmp j2 (4611686018427387903 : Int64)) then
      some (0 : Int32)
    else
      if (lg_cmp (j2 &&& (1 : Int64)) (1 : Int64)) = 0 then
        if (lg_cmp j4 (3 : Int64)) < 0 then
          some (0 : Int32)
        else
          if 0 < (lg_cmp j4 (2147483647 : Int64)) then
            some (0 : Int32)
          else
            if (lg_cmp j0 (0 : Int64)) < 0 then
              some (0 : Int32)
            else
              if 0 ≤ (lg_cmp j0 j2) then
                some (0 : Int32)
              else
                zk_p (zf_Numbers_power n j0 j4 j2) fun j_1 =>
                zk_p (zf_Numbers_block n i6) fun j_2 =>
                if (lg_cmp j_1 j_2) = 0 then
                  some (1 : Int32)
                else
                  some (0 : Int32)
      else
        some (0 : Int32)
def zf_V_good (n : Nat) (a0 : Nat) (j1 : Int64) (j3 : Int64) (j5 : Int64) (i7 : Int32) : Option Int32 :=
  zk_p (zf_Numbers_isGood n j1 j3 j5 i7) fun i_1 =>
  if i_1 = 0 ∨ i_1 = 1 then
  some i_1
  else none
def zf_M_in (n : Nat) (j0 : Int64) (j2 : Int64) (j4 : Int64) : Option Int32 :=
  if (lg_cmp j0 j2) < 0 then
    some (0 : Int32)
  else
    if 0 < (lg_cmp j0 j4) then
      some (0 : Int32)
    else
      some (1 : Int32)
def zf_M_block (n : Nat) (i0 : Int32) : Option Int64 :=
  some ((561850441793536 : Int64) + (i0.toInt64 &&& (4294967295 : Int64)))
def zb_M_times_38 (n : Nat) (r12 : Int64 → Int64 → Int64 → Int64 → Option Int64) (j4 : Int64) (j6 : Int64) (j8 : Int64) (j10 : Int64) : Option Int64 :=
  if ¬ j4 = 0 then
  zk_l (((j8 + j8) - (j8 + j8) / j4 * j4)) fun j_2 =>
  zk_l ((j10 >>> ((1 : Int32).toInt64 &&& 63))) fun j_3 =>
  r12 j4 j6 j_2 j_3
  else none
def zl_M_times_12 (n : Nat) : Nat → Int64 → Int64 → Int64 → Int64 → Option Int64
  | 0, _, _, _, _ => none
  | k + 1, j4, j6, j8, j10 =>
    if (lg_cmp j10 (0 : Int64)) ≤ 0 then
      some j6
    else
      if (lg_cmp (j10 &&& (1 : Int64)) (1 : Int64)) = 0 then
        if ¬ j4 = 0 then
        zk_l (((j6 + j8) - (j6 + j8) / j4 * j4)) fun j_2 =>
        zb_M_times_38 n (zl_M_times_12 n k) j4 j_2 j8 j10
        else none
      else
        zb_M_times_38 n (zl_M_times_12 n k) j4 j6 j8 j10
def zf_M_times (n : Nat) (j0 : Int64) (j2 : Int64) (j4 : Int64) : Option Int64 :=
  if ¬ j4 = 0 then
  zk_l ((j0 - j0 / j4 * j4)) fun j_2 =>
  zl_M_times_12 n n j4 (0 : Int64) j_2 j2
  else none
def zb_M_power_42 (n : Nat) (r15 : Int64 → Int64 → Int64 → Int64 → Option Int64) (j4 : Int64) (j6 : Int64) (j8 : Int64) (j10 : Int64) : Option Int64 :=
  zk_p (zf_M_times n j8 j8 j4) fun j_1 =>
  zk_l ((j10 >>> ((1 : Int32).toInt64 &&& 63))) fun j_2 =>
  r15 j4 j6 j_1 j_2
def zl_M_power_15 (n : Nat) : Nat → Int64 → Int64 → Int64 → Int64 → Option Int64
  | 0, _, _, _, _ => none
  | k + 1, j4, j6, j8, j10 =>
    if (lg_cmp j10 (0 : Int64)) ≤ 0 then
      some j6
    else
      if (lg_cmp (j10 &&& (1 : Int64)) (1 : Int64)) = 0 then
        zk_p (zf_M_times n j6 j8 j4) fun j_1 =>
        zb_M_power_42 n (zl_M_power_15 n k) j4 j_1 j8 j10
      else
        zb_M_power_42 n (zl_M_power_15 n k) j4 j6 j8 j10
def zf_M_power (n : Nat) (j0 : Int64) (j2 : Int64) (j4 : Int64) : Option Int64 :=
  if ¬ j4 = 0 then
  zk_l (((1 : Int64) - (1 : Int64) / j4 * j4)) fun j_2 =>
  if ¬ j4 = 0 then
  zk_l ((j0 - j0 / j4 * j4)) fun j_4 =>
  zl_M_power_15 n n j4 j_2 j_4 j2
  else none
  else none
def zf_M_good (n : Nat) (a0 : Nat) (j1 : Int64) (j3 : Int64) (j5 : Int64) (i7 : Int32) : Option Int32 :=
  if (lg_cmp j1 (0 : Int64)) < 0 then
    some (0 : Int32)
  else
    if ¬ (2 : Int64) = 0 then
    if (lg_cmp (j3 - j3 / (2 : Int64) * (2 : Int64)) (1 : Int64)) = 0 then
      zk_p (zf_M_in n j3 (144115188075855872 : Int64) (4611686018427387903 : Int64)) fun i_2 =>
      if i_2 = 0 then
        some (0 : Int32)
      else
        zk_p (zf_M_in n j5 (3 : Int64) (2147483647 : Int64)) fun i_3 =>
        if i_3 = 0 then
          some (0 : Int32)
        else
          if (lg_cmp j1 j3) < 0 then
            zk_p (zf_M_block n i7) fun j_4 =>
            zk_p (zf_M_power n j1 j5 j3) fun j_5 =>
            if (lg_cmp j_5 j_4) = 0 then
              some (1 : Int32)
            else
              some (0 : Int32)
          else
            some (0 : Int32)
    else
      some (0 : Int32)
    else none
def zf_Numbers_isKey (n : Nat) (j0 : Int64) : Option Int32 :=
  if (lg_cmp j0 (0 : Int64)) < 0 then
    some (0 : Int32)
  else
    if 0 ≤ (lg_cmp j0 ((6 : Int32).toInt64)) then
      some (0 : Int32)
    else
      some (1 : Int32)
def zf_Numbers_signature (n : Nat) (i0 : Int32) (i1 : Int32) : Option Int64 :=
  zk_p (zf_Numbers_block n i1) fun j_1 =>
  if ¬ i0 < 0 ∧ i0.toNatClampNeg < 6 then
  if ¬ i0 < 0 ∧ i0.toNatClampNeg < 6 then
  zk_p (zf_Numbers_power n j_1 (zt_PRIVATE_EXPONENTS i0.toNatClampNeg) (zt_MODULI i0.toNatClampNeg)) fun j_4 =>
  some j_4
  else none
  else none
def zf_V_sign (n : Nat) (a0 : Nat) (i1 : Int32) (i2 : Int32) : Option Int64 :=
  zk_p (zf_Numbers_isKey n (i1.toInt64)) fun i_1 =>
  if i_1 = 0 then
    some (-1 : Int64)
  else
    zk_p (zf_Numbers_signature n i1 i2) fun j_2 =>
    some j_2
def zf_M_sign (n : Nat) (s0 : zh_S) (a0 : Nat) (i1 : Int32) (i2 : Int32) : Option Int64 :=
  if i1 < 0 then
    some (-1 : Int64)
  else
    if i1 ≤ (5 : Int32) then
      zk_p (zf_M_block n i2) fun j_1 =>
      if zh_oo s0 a0 8 then
      zk_p (zh_R s0 a0 8) fun a_3 =>
      if zh_oa s0 a_3 1 i1 then
      zk_p (zh_R s0 a0 6) fun a_6 =>
      if zh_oa s0 a_6 1 i1 then
      zk_p (zf_M_power n j_1 (zh_J s0 a_3 (i1.toNatClampNeg)) (zh_J s0 a_6 (i1.toNatClampNeg))) fun j_9 =>
      some j_9
      else none
      else none
      else none
    else
      some (-1 : Int64)
def zf_V_candidates (n : Nat) (s0 : zh_S) (a0 : Nat) : Option Int32 :=
  if zh_oo s0 a0 7 then
  zk_o (zh_R s0 a0 3) (
    some (0 : Int32)) fun a_2 =>
  zk_o (zh_R s0 a0 3) (
    none) fun a_3 =>
  if zh_oo s0 a_3 4 then
  some (zh_I s0 a_3 7)
  else none
  else none
def zf_M_candidates (n : Nat) (s0 : zh_S) (a0 : Nat) : Option Int32 :=
  if zh_oo s0 a0 8 then
  some (zh_I s0 a0 25)
  else none
def zf_Search_foundAt (n : Nat) (s0 : zh_S) (a0 : Nat) (i1 : Int32) : Option Int32 :=
  if i1 < 0 then
    some (-1 : Int32)
  else
    if zh_oo s0 a0 4 then
    if (zh_I s0 a0 5) ≤ i1 then
      some (-1 : Int32)
    else
      zk_p (zh_R s0 a0 4) fun a_2 =>
      if zh_oa s0 a_2 0 (((zh_I s0 a0 5) - (1 : Int32)) - i1) then
      some (zh_I s0 a_2 ((((zh_I s0 a0 5) - (1 : Int32)) - i1).toNatClampNeg))
      else none
    else none
def zf_V_chain (n : Nat) (s0 : zh_S) (a0 : Nat) (i1 : Int32) : Option Int32 :=
  if zh_oo s0 a0 7 then
  zk_o (zh_R s0 a0 3) (
    some (-1 : Int32)) fun a_2 =>
  zk_o (zh_R s0 a0 3) (
    none) fun a_3 =>
  if zh_oo s0 a_3 4 then
  zk_p (zf_Search_foundAt n s0 a_3 i1) fun i_5 =>
  some i_5
  else none
  else none
def zf_M_chain (n : Nat) (s0 : zh_S) (a0 : Nat) (i1 : Int32) : Option Int32 :=
  if i1 < 0 then
    some (-1 : Int32)
  else
    if zh_oo s0 a0 8 then
    if i1 < (zh_I s0 a0 24) then
      zk_p (zh_R s0 a0 23) fun a_2 =>
      if zh_oa s0 a_2 0 i1 then
      some (zh_I s0 a_2 (i1.toNatClampNeg))
      else none
    else
      some (-1 : Int32)
    else none
def zf_Shelf_hasCertificate (n : Nat) (s0 : zh_S) (a0 : Nat) (i1 : Int32) : Option Int32 :=
  if i1 < 0 then
    some (0 : Int32)
  else
    if zh_oo s0 a0 5 then
    if (zh_I s0 a0 2) ≤ i1 then
      some (0 : Int32)
    else
      some (1 : Int32)
    else none
def zf_Search_init (n : Nat) (s0 : zh_S) (a0 : Nat) (a1 : Nat) (j2 : Int64) (i4 : Int32) (i5 : Int32) : Option zh_S :=
  if ¬ (5 : Int32) < 0 ∧ (5 : Int32).toNatClampNeg ≤ 1000 then
  zk_l (zh_N s0) fun a_2 =>
  zk_l (zh_new s0 (0, (5 : Int32).toNatClampNeg) ((5 : Int32).toNatClampNeg)) fun s_1 =>
  if zh_oo s_1 a0 4 then
  zk_l (zh_uR s_1 a0 4 (some a_2)) fun s_4 =>
  zk_l (zh_uI s_4 a0 5 (0 : Int32)) fun s_6 =>
  zk_l (zh_uI s_6 a0 6 (0 : Int32)) fun s_7 =>
  zk_l (zh_uI s_7 a0 7 (0 : Int32)) fun s_8 =>
  zk_l (zh_uR s_8 a0 0 (some a1)) fun s_9 =>
  zk_l (zh_uJ s_9 a0 1 j2) fun s_10 =>
  zk_l (zh_uI s_10 a0 2 i4) fun s_11 =>
  if i5 = 0 ∨ i5 = 1 then
  zk_l (zh_uI s_11 a0 3 i5) fun s_12 =>
  some s_12
  else none
  else none
  else none
def zf_Search_inPart (n : Nat) (s0 : zh_S) (a0 : Nat) (i1 : Int32) : Option Nat :=
  if zh_oo s0 a0 4 then
  zk_p (zh_R s0 a0 0) fun a_2 =>
  if zh_oo s0 a_2 5 then
  zk_p (zh_R s0 a_2 0) fun a_5 =>
  zk_p (zh_R s0 a0 4) fun a_7 =>
  if zh_oa s0 a_7 0 i1 then
  if zh_oa s0 a_5 3 (zh_I s0 a_7 (i1.toNatClampNeg)) then
  zk_p (zh_R s0 a_5 ((zh_I s0 a_7 (i1.toNatClampNeg)).toNatClampNeg)) fun a_11 =>
  some a_11
  else none
  else none
  else none
  else none
def zl_Search_isInPart_2 (n : Nat) : Nat → zh_S → Nat → Int32 → Int32 → Int32 → Option Int32
  | 0, _, _, _, _, _ => none
  | k + 1, s0, a0, i1, i2, i3 =>
    if i2 ≤ i3 then
      some (0 : Int32)
    else
      if zh_oo s0 a0 4 then
      zk_p (zh_R s0 a0 4) fun a_2 =>
      if zh_oa s0 a_2 0 i3 then
      if (zh_I s0 a_2 (i3.toNatClampNeg)) = i1 then
        some (1 : Int32)
      else
        zk_l (i3 + (1 : Int32)) fun i_5 =>
        zl_Search_isInPart_2 n k s0 a0 i1 i2 i_5
      else none
      else none
def zf_Search_isInPart (n : Nat) (s0 : zh_S) (a0 : Nat) (i1 : Int32) (i2 : Int32) : Option Int32 :=
  zl_Search_isInPart_2 n n s0 a0 i1 i2 (0 : Int32)
def zb_Search_goThrough_96 (n : Nat) (g : zh_S → Nat → Int32 → Option (Int32 × zh_S)) (r14 : zh_S → Nat → Int32 → Int32 → Int64 → Int32 → Option (Int32 × zh_S)) (s0 : zh_S) (a0 : Nat) (i1 : Int32) (i2 : Int32) (j3 : Int64) (i5 : Int32) : Option (Int32 × zh_S) :=
  zk_l (i5 + (1 : Int32)) fun i_1 =>
  r14 s0 a0 i1 i2 j3 i_1
def zl_Search_goThrough_14 (n : Nat) (g : zh_S → Nat → Int32 → Option (Int32 × zh_S)) : Nat → zh_S → Nat → Int32 → Int32 → Int64 → Int32 → Option (Int32 × zh_S)
  | 0, _, _, _, _, _, _ => none
  | k + 1, s0, a0, i1, i2, j3, i5 =>
    if zh_oo s0 a0 4 then
    zk_p (zh_R s0 a0 0) fun a_2 =>
    if zh_oo s0 a_2 5 then
    if (zh_I s0 a_2 2) ≤ i5 then
      some ((0 : Int32), s0)
    else
      if (40 : Int32) ≤ (zh_I s0 a0 7) then
        some ((0 : Int32), s0)
      else
        zk_p (zh_R s0 a0 0) fun a_5 =>
        if zh_oo s0 a_5 5 then
        zk_p (zh_R s0 a_5 0) fun a_8 =>
        if zh_oa s0 a_8 3 i5 then
        zk_p (zh_R s0 a_8 (i5.toNatClampNeg)) fun a_11 =>
        if zh_oo s0 a_11 0 then
        if (zh_I s0 a_11 18) = i2 then
          if (lg_cmp (zh_J s0 a_11 7) j3) = 0 then
            zk_p (zf_Search_isInPart n s0 a0 i5 i1) fun i_14 =>
            if i_14 = 0 then
              zk_p (zh_R s0 a0 4) fun a_15 =>
              if zh_oa s0 a_15 0 i1 then
              zk_l (zh_uI s0 a_15 (i1.toNatClampNeg) i5) fun s_17 =>
              if zh_oo s_17 a0 4 then
              zk_b (g s_17 a0 (i1 + (1 : Int32))) fun i_21 s_19 =>
              if i_21 = 0 then
                zb_Search_goThrough_96 n g (zl_Search_goThrough_14 n g k) s_19 a0 i1 i2 j3 i5
              else
                some ((1 : Int32), s_19)
              else none
              else none
            else
              zb_Search_goThrough_96 n g (zl_Search_goThrough_14 n g k) s0 a0 i1 i2 j3 i5
          else
            zb_Search_goThrough_96 n g (zl_Search_goThrough_14 n g k) s0 a0 i1 i2 j3 i5
        else
          zb_Search_goThrough_96 n g (zl_Search_goThrough_14 n g k) s0 a0 i1 i2 j3 i5
        else none
        else none
        else none
    else none
    else none
def zf_Search_goThrough (n : Nat) (g : zh_S → Nat → Int32 → Option (Int32 × zh_S)) (s0 : zh_S) (a0 : Nat) (i1 : Int32) (i2 : Int32) : Option (Int32 × zh_S) :=
  if zh_oo s0 a0 4 then
  zk_p (zf_Search_inPart n s0 a0 (i1 - (1 : Int32))) fun a_2 =>
  if zh_oo s0 a_2 0 then
  zk_l ((zh_J s0 a_2 0)) fun j_4 =>
  zl_Search_goThrough_14 n g n s0 a0 i1 i2 j_4 (0 : Int32)
  else none
  else none
def zf_Signed_isSignedBy_C (n : Nat) (s0 : zh_S) (a0 : Nat) (i1 : Int32) : Option Int32 :=
  if zh_oo s0 a0 0 then
  if (((zh_I s0 a0 5) >>> (i1 &&& 31)) &&& (1 : Int32)) = (1 : Int32) then
    some (1 : Int32)
  else
    some (0 : Int32)
  else none
def zf_Signed_isTimely_C (n : Nat) (s0 : zh_S) (a0 : Nat) (j1 : Int64) : Option Int32 :=
  if zh_oo s0 a0 0 then
  if 0 < (lg_cmp (zh_J s0 a0 1) j1) then
    some (0 : Int32)
  else
    if 0 < (lg_cmp j1 (zh_J s0 a0 2)) then
      some (0 : Int32)
    else
      some (1 : Int32)
  else none
def zf_Certificate_isFitFor (n : Nat) (s0 : zh_S) (a0 : Nat) (i1 : Int32) : Option Int32 :=
  if zh_oo s0 a0 0 then
  if (lg_cmp (zh_J s0 a0 11) (0 : Int64)) = 0 then
    some (1 : Int32)
  else
    if (lg_cmp ((zh_J s0 a0 11) &&& i1.toInt64) (0 : Int64)) = 0 then
      some (0 : Int32)
    else
      some (1 : Int32)
  else none
def zf_Signed_isTimely_R (n : Nat) (s0 : zh_S) (a0 : Nat) (j1 : Int64) : Option Int32 :=
  if zh_oo s0 a0 3 then
  if 0 < (lg_cmp (zh_J s0 a0 1) j1) then
    some (0 : Int32)
  else
    if 0 < (lg_cmp j1 (zh_J s0 a0 2)) then
      some (0 : Int32)
    else
      some (1 : Int32)
  else none
def zf_Signed_isSignedBy_R (n : Nat) (s0 : zh_S) (a0 : Nat) (i1 : Int32) : Option Int32 :=
  if zh_oo s0 a0 3 then
  if (((zh_I s0 a0 5) >>> (i1 &&& 31)) &&& (1 : Int32)) = (1 : Int32) then
    some (1 : Int32)
  else
    some (0 : Int32)
  else none
def zb_Search_takeList_101 (n : Nat) (r23 : zh_S → Nat → Nat → Int32 → Option Nat → Int32 → Option (Option Nat)) (s0 : zh_S) (a0 : Nat) (a1 : Nat) (i2 : Int32) (o3 : Option Nat) (i4 : Int32) : Option (Option Nat) :=
  zk_o (o3) (
    zk_l (i4 + (1 : Int32)) fun i_2 =>
    r23 s0 a0 a1 i2 none i_2) fun a_1 =>
  zk_l (i4 + (1 : Int32)) fun i_3 =>
  r23 s0 a0 a1 i2 (some a_1) i_3
def zb_Search_takeList_98 (n : Nat) (r23 : zh_S → Nat → Nat → Int32 → Option Nat → Int32 → Option (Option Nat)) (s0 : zh_S) (a0 : Nat) (a1 : Nat) (i2 : Int32) (i4 : Int32) (a5 : Nat) : Option (Option Nat) :=
  zb_Search_takeList_101 n r23 s0 a0 a1 i2 (some a5) i4
def zl_Search_takeList_23 (n : Nat) : Nat → zh_S → Nat → Nat → Int32 → Option Nat → Int32 → Option (Option Nat)
  | 0, _, _, _, _, _, _ => none
  | k + 1, s0, a0, a1, i2, o3, i4 =>
    zk_o (o3) (
      if zh_oo s0 a0 4 then
      zk_p (zh_R s0 a0 0) fun a_3 =>
      if zh_oo s0 a_3 5 then
      if (zh_I s0 a_3 3) ≤ i4 then
        some none
      else
        zk_p (zh_R s0 a0 0) fun a_6 =>
        if zh_oo s0 a_6 5 then
        zk_p (zh_R s0 a_6 1) fun a_9 =>
        if zh_oa s0 a_9 4 i4 then
        zk_p (zh_R s0 a_9 (i4.toNatClampNeg)) fun a_12 =>
        if zh_oo s0 a_12 3 then
        if zh_oo s0 a1 0 then
        if (lg_cmp (zh_J s0 a_12 0) (zh_J s0 a1 0)) = 0 then
          zk_p (zf_Signed_isTimely_R n s0 a_12 (zh_J s0 a0 1)) fun i_16 =>
          if i_16 = 0 then
            zb_Search_takeList_101 n (zl_Search_takeList_23 n k) s0 a0 a1 i2 none i4
          else
            zk_p (zf_Signed_isSignedBy_R n s0 a_12 i2) fun i_17 =>
            if i_17 = 0 then
              zb_Search_takeList_101 n (zl_Search_takeList_23 n k) s0 a0 a1 i2 none i4
            else
              zb_Search_takeList_98 n (zl_Search_takeList_23 n k) s0 a0 a1 i2 i4 a_12
        else
          zb_Search_takeList_101 n (zl_Search_takeList_23 n k) s0 a0 a1 i2 none i4
        else none
        else none
        else none
        else none
      else none
      else none) fun a_1 =>
    if zh_oo s0 a0 4 then
    zk_p (zh_R s0 a0 0) fun a_19 =>
    if zh_oo s0 a_19 5 then
    if (zh_I s0 a_19 3) ≤ i4 then
      some (some a_1)
    else
      zk_p (zh_R s0 a0 0) fun a_22 =>
      if zh_oo s0 a_22 5 then
      zk_p (zh_R s0 a_22 1) fun a_25 =>
      if zh_oa s0 a_25 4 i4 then
      zk_p (zh_R s0 a_25 (i4.toNatClampNeg)) fun a_28 =>
      if zh_oo s0 a_28 3 then
      if zh_oo s0 a1 0 then
      if (lg_cmp (zh_J s0 a_28 0) (zh_J s0 a1 0)) = 0 then
        zk_p (zf_Signed_isTimely_R n s0 a_28 (zh_J s0 a0 1)) fun i_32 =>
        if i_32 = 0 then
          zb_Search_takeList_101 n (zl_Search_takeList_23 n k) s0 a0 a1 i2 (some a_1) i4
        else
          zk_p (zf_Signed_isSignedBy_R n s0 a_28 i2) fun i_33 =>
          if i_33 = 0 then
            zb_Search_takeList_101 n (zl_Search_takeList_23 n k) s0 a0 a1 i2 (some a_1) i4
          else
            if zh_oo s0 a_1 3 then
            if (lg_cmp (zh_J s0 a_28 1) (zh_J s0 a_1 1)) ≤ 0 then
              zb_Search_takeList_101 n (zl_Search_takeList_23 n k) s0 a0 a1 i2 (some a_1) i4
            else
              zb_Search_takeList_98 n (zl_Search_takeList_23 n k) s0 a0 a1 i2 i4 a_28
            else none
      else
        zb_Search_takeList_101 n (zl_Search_takeList_23 n k) s0 a0 a1 i2 (some a_1) i4
      else none
      else none
      else none
      else none
    else none
    else none
def zf_Search_takeList (n : Nat) (s0 : zh_S) (a0 : Nat) (a1 : Nat) (i2 : Int32) : Option (Option Nat) :=
  if zh_oo s0 a0 4 then
  zk_p (zh_R s0 a0 0) fun a_2 =>
  if zh_oo s0 a_2 5 then
  zk_p (zh_R s0 a_2 0) fun a_5 =>
  if zh_oa s0 a_5 3 i2 then
  zk_p (zh_R s0 a_5 (i2.toNatClampNeg)) fun a_8 =>
  if zh_oo s0 a_8 0 then
  zk_p (zf_Certificate_isFitFor n s0 a_8 (2 : Int32)) fun i_11 =>
  if i_11 = 0 then
    some none
  else
    zl_Search_takeList_23 n n s0 a0 a1 i2 none (0 : Int32)
  else none
  else none
  else none
  else none
def zl_Names_isWithin_20 (n : Nat) : Nat → Int64 → Int64 → Option Int32
  | 0, _, _ => none
  | k + 1, j4, j6 =>
    if (lg_cmp j6 (0 : Int64)) = 0 then
      some (0 : Int32)
    else
      if (lg_cmp j6 j4) = 0 then
        some (1 : Int32)
      else
        zk_l ((zu_l j6 (5 : Int32))) fun j_1 =>
        zl_Names_isWithin_20 n k j4 j_1
def zf_Names_isWithin (n : Nat) (j0 : Int64) (j2 : Int64) : Option Int32 :=
  if (lg_cmp j0 j2) = 0 then
    some (1 : Int32)
  else
    zk_l (((j2 <<< ((5 : Int32).toInt64 &&& 63)) ||| (27 : Int64))) fun j_1 =>
    zl_Names_isWithin_20 n n j_1 j0
def zb_Search_isInRealms_78 (n : Nat) (r14 : zh_S → Nat → Int32 → Int64 → Int32 → Option Int32) (s0 : zh_S) (a0 : Nat) (i2 : Int32) (j3 : Int64) (i5 : Int32) : Option Int32 :=
  zk_l (i5 + (1 : Int32)) fun i_1 =>
  r14 s0 a0 i2 j3 i_1
def zb_Search_isInRealms_54 (n : Nat) (r14 : zh_S → Nat → Int32 → Int64 → Int32 → Option Int32) (s0 : zh_S) (a0 : Nat) (i2 : Int32) (j3 : Int64) (i5 : Int32) (a6 : Nat) : Option Int32 :=
  if zh_oo s0 a6 0 then
  if (lg_cmp (zh_J s0 a6 13) (0 : Int64)) = 0 then
    zb_Search_isInRealms_78 n r14 s0 a0 i2 j3 i5
  else
    zk_p (zf_Names_isWithin n j3 (zh_J s0 a6 13)) fun i_2 =>
    if i_2 = 0 then
      zb_Search_isInRealms_78 n r14 s0 a0 i2 j3 i5
    else
      some (0 : Int32)
  else none
def zl_Search_isInRealms_14 (n : Nat) : Nat → zh_S → Nat → Int32 → Int64 → Int32 → Option Int32
  | 0, _, _, _, _, _ => none
  | k + 1, s0, a0, i2, j3, i5 =>
    if (i2 - (1 : Int32)) ≤ i5 then
      some (1 : Int32)
    else
      if zh_oo s0 a0 4 then
      zk_p (zf_Search_inPart n s0 a0 i5) fun a_2 =>
      if zh_oo s0 a_2 0 then
      if (lg_cmp (zh_J s0 a_2 12) (0 : Int64)) = 0 then
        zb_Search_isInRealms_54 n (zl_Search_isInRealms_14 n k) s0 a0 i2 j3 i5 a_2
      else
        zk_p (zf_Names_isWithin n j3 (zh_J s0 a_2 12)) fun i_4 =>
        if i_4 = 0 then
          some (0 : Int32)
        else
          zb_Search_isInRealms_54 n (zl_Search_isInRealms_14 n k) s0 a0 i2 j3 i5 a_2
      else none
      else none
def zf_Search_isInRealms (n : Nat) (s0 : zh_S) (a0 : Nat) (i1 : Int32) (i2 : Int32) : Option Int32 :=
  if zh_oo s0 a0 4 then
  zk_p (zf_Search_inPart n s0 a0 i1) fun a_2 =>
  if zh_oo s0 a_2 0 then
  zk_l ((zh_J s0 a_2 7)) fun j_4 =>
  zk_l ((i1 + (1 : Int32))) fun i_5 =>
  zl_Search_isInRealms_14 n n s0 a0 i2 j_4 i_5
  else none
  else none
def zf_Certificate_isSelfIssued (n : Nat) (s0 : zh_S) (a0 : Nat) : Option Int32 :=
  if zh_oo s0 a0 0 then
  if (lg_cmp (zh_J s0 a0 0) (zh_J s0 a0 7)) = 0 then
    some (1 : Int32)
  else
    some (0 : Int32)
  else none
def zb_Search_countBefore_23 (n : Nat) (r4 : zh_S → Nat → Int32 → Int32 → Int32 → Option Int32) (s0 : zh_S) (a0 : Nat) (i1 : Int32) (i2 : Int32) (i3 : Int32) : Option Int32 :=
  zk_l (i3 + (1 : Int32)) fun i_1 =>
  r4 s0 a0 i1 i2 i_1
def zl_Search_countBefore_4 (n : Nat) : Nat → zh_S → Nat → Int32 → Int32 → Int32 → Option Int32
  | 0, _, _, _, _, _ => none
  | k + 1, s0, a0, i1, i2, i3 =>
    if i1 ≤ i3 then
      some i2
    else
      if zh_oo s0 a0 4 then
      zk_p (zf_Search_inPart n s0 a0 i3) fun a_2 =>
      if zh_oo s0 a_2 0 then
      zk_p (zf_Certificate_isSelfIssued n s0 a_2) fun i_4 =>
      if i_4 = 0 then
        zk_l (i2 + (1 : Int32)) fun i_5 =>
        zb_Search_countBefore_23 n (zl_Search_countBefore_4 n k) s0 a0 i1 i_5 i3
      else
        zb_Search_countBefore_23 n (zl_Search_countBefore_4 n k) s0 a0 i1 i2 i3
      else none
      else none
def zf_Search_countBefore (n : Nat) (s0 : zh_S) (a0 : Nat) (i1 : Int32) : Option Int32 :=
  zl_Search_countBefore_4 n n s0 a0 i1 (0 : Int32) (1 : Int32)
def zb_RevokedList_revokes_38 (n : Nat) (r3 : zh_S → Nat → Int64 → Int64 → Int32 → Option Int32) (s0 : zh_S) (a0 : Nat) (j1 : Int64) (j3 : Int64) (i5 : Int32) : Option Int32 :=
  zk_l (i5 + (1 : Int32)) fun i_1 =>
  r3 s0 a0 j1 j3 i_1
def zl_RevokedList_revokes_3 (n : Nat) : Nat → zh_S → Nat → Int64 → Int64 → Int32 → Option Int32
  | 0, _, _, _, _, _ => none
  | k + 1, s0, a0, j1, j3, i5 =>
    if zh_oo s0 a0 3 then
    if (zh_I s0 a0 8) ≤ i5 then
      some (0 : Int32)
    else
      zk_p (zh_R s0 a0 6) fun a_2 =>
      if zh_oa s0 a_2 1 i5 then
      if (lg_cmp (zh_J s0 a_2 (i5.toNatClampNeg)) j1) = 0 then
        zk_p (zh_R s0 a0 7) fun a_5 =>
        if zh_oa s0 a_5 1 i5 then
        if 0 < (lg_cmp (zh_J s0 a_5 (i5.toNatClampNeg)) j3) then
          zb_RevokedList_revokes_38 n (zl_RevokedList_revokes_3 n k) s0 a0 j1 j3 i5
        else
          some (1 : Int32)
        else none
      else
        zb_RevokedList_revokes_38 n (zl_RevokedList_revokes_3 n k) s0 a0 j1 j3 i5
      else none
    else none
def zf_RevokedList_revokes (n : Nat) (s0 : zh_S) (a0 : Nat) (j1 : Int64) (j3 : Int64) : Option Int32 :=
  zl_RevokedList_revokes_3 n n s0 a0 j1 j3 (0 : Int32)
def zb_Search_reasonAgainst_153 (n : Nat) (s0 : zh_S) (a3 : Nat) : Option Int32 :=
  if zh_oo s0 a3 0 then
  zk_p (zf_Certificate_isFitFor n s0 a3 (1 : Int32)) fun i_2 =>
  if i_2 = 0 then
    some (9 : Int32)
  else
    some (0 : Int32)
  else none
def zb_Search_reasonAgainst_88 (n : Nat) (s0 : zh_S) (a0 : Nat) (i1 : Int32) (i2 : Int32) (a3 : Nat) : Option Int32 :=
  if zh_oo s0 a0 4 then
  zk_p (zf_Search_isInRealms n s0 a0 i1 i2) fun i_2 =>
  if i_2 = 0 then
    some (5 : Int32)
  else
    if zh_oo s0 a3 0 then
    if (zh_I s0 a3 17) = 0 then
      if i1 = 0 then
        some (0 : Int32)
      else
        if (zh_I s0 a3 16) = 0 then
          some (7 : Int32)
        else
          if (lg_cmp (zh_J s0 a3 10) (-1 : Int64)) = 0 then
            zb_Search_reasonAgainst_153 n s0 a3
          else
            zk_p (zf_Search_countBefore n s0 a0 i1) fun i_4 =>
            if (lg_cmp (i_4.toInt64) (zh_J s0 a3 10)) ≤ 0 then
              zb_Search_reasonAgainst_153 n s0 a3
            else
              some (8 : Int32)
    else
      some (6 : Int32)
    else none
  else none
def zb_Search_reasonAgainst_74 (n : Nat) (s0 : zh_S) (a0 : Nat) (i1 : Int32) (i2 : Int32) (a3 : Nat) (o4 : Option Nat) : Option Int32 :=
  zk_o (o4) (
    if zh_oo s0 a0 4 then
    if (zh_I s0 a0 3) = 0 then
      zb_Search_reasonAgainst_88 n s0 a0 i1 i2 a3
    else
      some (4 : Int32)
    else none) fun a_1 =>
  zb_Search_reasonAgainst_88 n s0 a0 i1 i2 a3
def zf_Search_reasonAgainst (n : Nat) (s0 : zh_S) (a0 : Nat) (i1 : Int32) (i2 : Int32) : Option Int32 :=
  if zh_oo s0 a0 4 then
  zk_p (zf_Search_inPart n s0 a0 i1) fun a_2 =>
  zk_p (zh_R s0 a0 4) fun a_3 =>
  if zh_oa s0 a_3 0 (i1 + (1 : Int32)) then
  if zh_oo s0 a_2 0 then
  zk_p (zf_Signed_isSignedBy_C n s0 a_2 (zh_I s0 a_3 ((i1 + (1 : Int32)).toNatClampNeg))) fun i_7 =>
  if i_7 = 0 then
    some (1 : Int32)
  else
    zk_p (zf_Signed_isTimely_C n s0 a_2 (zh_J s0 a0 1)) fun i_8 =>
    if i_8 = 0 then
      some (2 : Int32)
    else
      zk_p (zh_R s0 a0 4) fun a_9 =>
      if zh_oa s0 a_9 0 (i1 + (1 : Int32)) then
      zk_p (zf_Search_takeList n s0 a0 a_2 (zh_I s0 a_9 ((i1 + (1 : Int32)).toNatClampNeg))) fun o_12 =>
      zk_o (o_12) (
        zb_Search_reasonAgainst_74 n s0 a0 i1 i2 a_2 none) fun a_13 =>
      if zh_oo s0 a_13 3 then
      zk_p (zf_RevokedList_revokes n s0 a_13 (zh_J s0 a_2 6) (zh_J s0 a0 1)) fun i_15 =>
      if i_15 = 0 then
        zb_Search_reasonAgainst_74 n s0 a0 i1 i2 a_2 (some a_13)
      else
        some (3 : Int32)
      else none
      else none
  else none
  else none
  else none
def zb_Search_tryCandidate_46 (n : Nat) (s0 : zh_S) (a0 : Nat) (i1 : Int32) : Option (Int32 × zh_S) :=
  if zh_oo s0 a0 4 then
  if (zh_I s0 a0 6) = 0 then
    zk_l (zh_uI s0 a0 5 i1) fun s_2 =>
    some ((1 : Int32), s_2)
  else
    some ((0 : Int32), s0)
  else none
def zl_Search_tryCandidate_19 (n : Nat) : Nat → zh_S → Nat → Int32 → Int32 → Option (Int32 × zh_S)
  | 0, _, _, _, _ => none
  | k + 1, s0, a0, i1, i2 =>
    if i2 < 0 then
      zb_Search_tryCandidate_46 n s0 a0 i1
    else
      if zh_oo s0 a0 4 then
      if (zh_I s0 a0 6) = 0 then
        zk_p (zf_Search_reasonAgainst n s0 a0 i2 i1) fun i_2 =>
        zk_l (zh_uI s0 a0 6 i_2) fun s_3 =>
        zk_l (i2 + (-1 : Int32)) fun i_4 =>
        zl_Search_tryCandidate_19 n k s_3 a0 i1 i_4
      else
        zb_Search_tryCandidate_46 n s0 a0 i1
      else none
def zf_Search_tryCandidate (n : Nat) (s0 : zh_S) (a0 : Nat) (i1 : Int32) : Option (Int32 × zh_S) :=
  if zh_oo s0 a0 4 then
  zk_l (zh_uI s0 a0 7 ((zh_I s0 a0 7) + (1 : Int32))) fun s_2 =>
  zk_l (zh_uI s_2 a0 6 (0 : Int32)) fun s_3 =>
  zk_l ((i1 - (2 : Int32))) fun i_4 =>
  zl_Search_tryCandidate_19 n n s_3 a0 i1 i_4
  else none
def zf_Search_goOn (n : Nat) : Nat → zh_S → Nat → Int32 → Option (Int32 × zh_S)
  | 0, _, _, _ => none
  | d + 1, s0, a0, i1 =>
    zk_l (zf_Search_goOn n d) fun g =>
    if zh_oo s0 a0 4 then
    zk_p (zf_Search_inPart n s0 a0 (i1 - (1 : Int32))) fun a_2 =>
    if zh_oo s0 a_2 0 then
    if (zh_I s0 a_2 18) = 0 then
      if (zh_I s0 a0 2) ≤ i1 then
        some ((0 : Int32), s0)
      else
        zk_b (zf_Search_goThrough n g s0 a0 i1 (1 : Int32)) fun i_5 s_4 =>
        if i_5 = 0 then
          if zh_oo s_4 a0 4 then
          zk_b (zf_Search_goThrough n g s_4 a0 i1 (0 : Int32)) fun i_8 s_6 =>
          if i_8 = 0 then
            some ((0 : Int32), s_6)
          else
            some ((1 : Int32), s_6)
          else none
        else
          some ((1 : Int32), s_4)
    else
      zk_b (zf_Search_tryCandidate n s0 a0 i1) fun i_10 s_9 =>
      if i_10 = 0 ∨ i_10 = 1 then
      some (i_10, s_9)
      else none
    else none
    else none
def zf_Search_lookFor (n : Nat) (s0 : zh_S) (a0 : Nat) (i1 : Int32) : Option (Int32 × zh_S) :=
  if zh_oo s0 a0 4 then
  zk_p (zh_R s0 a0 4) fun a_2 =>
  if zh_oa s0 a_2 0 (0 : Int32) then
  zk_l (zh_uI s0 a_2 ((0 : Int32).toNatClampNeg) i1) fun s_4 =>
  if zh_oo s_4 a0 4 then
  zk_b (zf_Search_goOn n 7 s_4 a0 (1 : Int32)) fun i_8 s_6 =>
  if i_8 = 0 then
    if zh_oo s_6 a0 4 then
    if (zh_I s_6 a0 7) = 0 then
      some ((0 : Int32), s_6)
    else
      some (((-10 : Int32) - (zh_I s_6 a0 6)), s_6)
    else none
  else
    if zh_oo s_6 a0 4 then
    some ((zh_I s_6 a0 5), s_6)
    else none
  else none
  else none
  else none
def zf_V_validate (n : Nat) (s0 : zh_S) (a0 : Nat) (i1 : Int32) (j2 : Int64) (i4 : Int32) (i5 : Int32) : Option (Int32 × zh_S) :=
  if zh_oo s0 a0 7 then
  zk_p (zh_R s0 a0 2) fun a_2 =>
  if zh_oo s0 a_2 5 then
  zk_p (zf_Shelf_hasCertificate n s0 a_2 i1) fun i_5 =>
  if i_5 = 0 then
    some ((-1 : Int32), s0)
  else
    if (lg_cmp j2 (0 : Int64)) < 0 then
      some ((-1 : Int32), s0)
    else
      if i4 < (1 : Int32) then
        some ((-1 : Int32), s0)
      else
        if i4 ≤ (5 : Int32) then
          zk_l (zh_N s0) fun a_7 =>
          zk_l (zh_new s0 (2, 4) 8) fun s_6 =>
          if zh_oo s_6 a0 7 then
          zk_p (zh_R s_6 a0 2) fun a_9 =>
          zk_p (zf_Search_init n s_6 a_7 a_9 j2 i4 i5) fun s_11 =>
          if zh_oo s_11 a0 7 then
          zk_l (zh_uR s_11 a0 3 (some a_7)) fun s_12 =>
          zk_o (zh_R s_12 a0 3) (
            none) fun a_14 =>
          if zh_oo s_12 a_14 4 then
          zk_b (zf_Search_lookFor n s_12 a_14 i1) fun i_17 s_15 =>
          some (i_17, s_15)
          else none
          else none
          else none
        else
          some ((-1 : Int32), s0)
  else none
  else none
def zf_M_of (n : Nat) (s0 : zh_S) (a0 : Nat) (i1 : Int32) (i2 : Int32) : Option Int64 :=
  if zh_oo s0 a0 8 then
  zk_p (zh_R s0 a0 16) fun a_2 =>
  if zh_oa s0 a_2 1 (((15 : Int32) * i1) + i2) then
  some (zh_J s0 a_2 ((((15 : Int32) * i1) + i2).toNatClampNeg))
  else none
  else none
def zf_M_flag (n : Nat) (s0 : zh_S) (a0 : Nat) (i1 : Int32) (j2 : Int64) : Option Int32 :=
  if zh_oo s0 a0 8 then
  zk_p (zf_M_of n s0 a0 i1 (14 : Int32)) fun j_2 =>
  if (lg_cmp (j_2 &&& j2) (0 : Int64)) = 0 then
    some (0 : Int32)
  else
    some (1 : Int32)
  else none
def zb_M_suits_91 (n : Nat) (r64 : zh_S → Nat → Int32 → Int32 → Int32 → Int32 → Option Int32) (s0 : zh_S) (a0 : Nat) (i2 : Int32) (i3 : Int32) (i5 : Int32) (it0 : Int32) : Option Int32 :=
  zk_l (i5 + (1 : Int32)) fun i_1 =>
  r64 s0 a0 i2 i3 it0 i_1
def zb_M_suits_86 (n : Nat) (r64 : zh_S → Nat → Int32 → Int32 → Int32 → Int32 → Option Int32) (s0 : zh_S) (a0 : Nat) (i2 : Int32) (i3 : Int32) (i5 : Int32) : Option Int32 :=
  zb_M_suits_91 n r64 s0 a0 i2 i3 i5 (1 : Int32)
def zl_M_suits_64 (n : Nat) : Nat → zh_S → Nat → Int32 → Int32 → Int32 → Int32 → Option Int32
  | 0, _, _, _, _, _, _ => none
  | k + 1, s0, a0, i2, i3, i4, i5 =>
    if i2 ≤ i5 then
      if i4 = 0 then
        some (1 : Int32)
      else
        some (0 : Int32)
    else
      if i4 = 0 then
        if zh_oo s0 a0 8 then
        zk_p (zh_R s0 a0 21) fun a_2 =>
        if zh_oa s0 a_2 0 i5 then
        if (zh_I s0 a_2 (i5.toNatClampNeg)) = i3 then
          zb_M_suits_86 n (zl_M_suits_64 n k) s0 a0 i2 i3 i5
        else
          zb_M_suits_91 n (zl_M_suits_64 n k) s0 a0 i2 i3 i5 (0 : Int32)
        else none
        else none
      else
        zb_M_suits_86 n (zl_M_suits_64 n k) s0 a0 i2 i3 i5
def zb_M_suits_30 (n : Nat) (s0 : zh_S) (a0 : Nat) (i2 : Int32) (i3 : Int32) (it0 : Int32) (it1 : Int32) : Option Int32 :=
  if it0 = it1 then
    if zh_oo s0 a0 8 then
    zk_p (zf_M_of n s0 a0 i3 (4 : Int32)) fun j_2 =>
    zk_p (zh_R s0 a0 21) fun a_3 =>
    if zh_oa s0 a_3 0 (i2 - (1 : Int32)) then
    zk_p (zf_M_of n s0 a0 (zh_I s0 a_3 ((i2 - (1 : Int32)).toNatClampNeg)) (1 : Int32)) fun j_6 =>
    if (lg_cmp j_2 j_6) = 0 then
      zl_M_suits_64 n n s0 a0 i2 i3 (0 : Int32) (0 : Int32)
    else
      some (0 : Int32)
    else none
    else none
  else
    some (0 : Int32)
def zf_M_suits (n : Nat) (s0 : zh_S) (a0 : Nat) (i1 : Int32) (i2 : Int32) : Option Int32 :=
  if ¬ (12 : Int32) = 0 then
  zk_l ((i1 - i1 / (12 : Int32) * (12 : Int32))) fun i_2 =>
  if zh_oo s0 a0 8 then
  if (zh_I s0 a0 15) ≤ i_2 then
    some (0 : Int32)
  else
    zk_p (zf_M_flag n s0 a0 i_2 (1 : Int64)) fun i_4 =>
    if (12 : Int32) ≤ i1 then
      zb_M_suits_30 n s0 a0 i2 i_2 i_4 (0 : Int32)
    else
      zb_M_suits_30 n s0 a0 i2 i_2 i_4 (1 : Int32)
  else none
  else none
def zf_M_signedBy (n : Nat) (s0 : zh_S) (a0 : Nat) (j1 : Int64) (j3 : Int64) (i5 : Int32) : Option Int32 :=
  if zh_oo s0 a0 8 then
  zk_p (zf_M_of n s0 a0 i5 (5 : Int32)) fun j_2 =>
  zk_p (zf_M_of n s0 a0 i5 (6 : Int32)) fun j_3 =>
  zk_p (zf_M_good n a0 j1 j_2 j_3 (j3.toInt32)) fun i_4 =>
  if i_4 = 0 ∨ i_4 = 1 then
  some i_4
  else none
  else none
def zb_M_listFor_186 (n : Nat) (r15 : zh_S → Nat → Int32 → Int32 → Int64 → Int32 → Int64 → Int32 → Option Int32) (s0 : zh_S) (a0 : Nat) (i1 : Int32) (i2 : Int32) (j3 : Int64) (i5 : Int32) (j6 : Int64) (i8 : Int32) : Option Int32 :=
  zk_l (i8 + (1 : Int32)) fun i_1 =>
  r15 s0 a0 i1 i2 j3 i5 j6 i_1
def zb_M_listFor_138 (n : Nat) (r15 : zh_S → Nat → Int32 → Int32 → Int64 → Int32 → Int64 → Int32 → Option Int32) (s0 : zh_S) (a0 : Nat) (i1 : Int32) (i2 : Int32) (j3 : Int64) (i5 : Int32) (j6 : Int64) (i8 : Int32) (i9 : Int32) (it0 : Int32) : Option Int32 :=
  if i9 = 0 then
    zb_M_listFor_186 n r15 s0 a0 i1 i2 j3 i5 j6 i8
  else
    if it0 = 0 then
      zb_M_listFor_186 n r15 s0 a0 i1 i2 j3 i5 j6 i8
    else
      if zh_oo s0 a0 8 then
      zk_p (zh_R s0 a0 18) fun a_2 =>
      if zh_oa s0 a_2 1 (((6 : Int32) * i8) + (4 : Int32)) then
      zk_p (zh_R s0 a0 18) fun a_5 =>
      if zh_oa s0 a_5 1 (((6 : Int32) * i8) + (5 : Int32)) then
      zk_p (zf_M_signedBy n s0 a0 (zh_J s0 a_2 ((((6 : Int32) * i8) + (4 : Int32)).toNatClampNeg)) (zh_J s0 a_5 ((((6 : Int32) * i8) + (5 : Int32)).toNatClampNeg)) i2) fun i_8 =>
      if i_8 = 0 then
        zb_M_listFor_186 n r15 s0 a0 i1 i2 j3 i5 j6 i8
      else
        zb_M_listFor_186 n r15 s0 a0 i1 i2 j3 i8 j6 i8
      else none
      else none
      else none
def zb_M_listFor_133 (n : Nat) (r15 : zh_S → Nat → Int32 → Int32 → Int64 → Int32 → Int64 → Int32 → Option Int32) (s0 : zh_S) (a0 : Nat) (i1 : Int32) (i2 : Int32) (j3 : Int64) (i5 : Int32) (j6 : Int64) (i8 : Int32) (i9 : Int32) : Option Int32 :=
  zb_M_listFor_138 n r15 s0 a0 i1 i2 j3 i5 j6 i8 i9 (1 : Int32)
def zb_M_listFor_98 (n : Nat) (r15 : zh_S → Nat → Int32 → Int32 → Int64 → Int32 → Int64 → Int32 → Option Int32) (s0 : zh_S) (a0 : Nat) (i1 : Int32) (i2 : Int32) (j3 : Int64) (i5 : Int32) (j6 : Int64) (i8 : Int32) (it0 : Int32) : Option Int32 :=
  if i5 < 0 then
    zb_M_listFor_133 n r15 s0 a0 i1 i2 j3 i5 j6 i8 it0
  else
    if zh_oo s0 a0 8 then
    zk_p (zh_R s0 a0 18) fun a_2 =>
    if zh_oa s0 a_2 1 (((6 : Int32) * i8) + (1 : Int32)) then
    zk_p (zh_R s0 a0 18) fun a_5 =>
    if zh_oa s0 a_5 1 (((6 : Int32) * i5) + (1 : Int32)) then
    if (lg_cmp (zh_J s0 a_2 ((((6 : Int32) * i8) + (1 : Int32)).toNatClampNeg)) (zh_J s0 a_5 ((((6 : Int32) * i5) + (1 : Int32)).toNatClampNeg))) ≤ 0 then
      zb_M_listFor_138 n r15 s0 a0 i1 i2 j3 i5 j6 i8 it0 (0 : Int32)
    else
      zb_M_listFor_133 n r15 s0 a0 i1 i2 j3 i5 j6 i8 it0
    else none
    else none
    else none
def zb_M_listFor_97 (n : Nat) (r15 : zh_S → Nat → Int32 → Int32 → Int64 → Int32 → Int64 → Int32 → Option Int32) (s0 : zh_S) (a0 : Nat) (i1 : Int32) (i2 : Int32) (j3 : Int64) (i5 : Int32) (j6 : Int64) (i8 : Int32) : Option Int32 :=
  zb_M_listFor_98 n r15 s0 a0 i1 i2 j3 i5 j6 i8 (0 : Int32)
def zb_M_listFor_93 (n : Nat) (r15 : zh_S → Nat → Int32 → Int32 → Int64 → Int32 → Int64 → Int32 → Option Int32) (s0 : zh_S) (a0 : Nat) (i1 : Int32) (i2 : Int32) (j3 : Int64) (i5 : Int32) (j6 : Int64) (i8 : Int32) : Option Int32 :=
  zb_M_listFor_98 n r15 s0 a0 i1 i2 j3 i5 j6 i8 (1 : Int32)
def zl_M_listFor_15 (n : Nat) : Nat → zh_S → Nat → Int32 → Int32 → Int64 → Int32 → Int64 → Int32 → Option Int32
  | 0, _, _, _, _, _, _, _, _ => none
  | k + 1, s0, a0, i1, i2, j3, i5, j6, i8 =>
    if zh_oo s0 a0 8 then
    if (zh_I s0 a0 17) ≤ i8 then
      some i5
    else
      zk_p (zh_R s0 a0 18) fun a_2 =>
      if zh_oa s0 a_2 1 ((6 : Int32) * i8) then
      zk_p (zf_M_of n s0 a0 i1 (1 : Int32)) fun j_5 =>
      if (lg_cmp (zh_J s0 a_2 (((6 : Int32) * i8).toNatClampNeg)) j_5) = 0 then
        zk_p (zh_R s0 a0 18) fun a_6 =>
        if zh_oa s0 a_6 1 (((6 : Int32) * i8) + (1 : Int32)) then
        zk_p (zh_R s0 a0 18) fun a_9 =>
        if zh_oa s0 a_9 1 (((6 : Int32) * i8) + (2 : Int32)) then
        zk_p (zf_M_in n j3 (zh_J s0 a_6 ((((6 : Int32) * i8) + (1 : Int32)).toNatClampNeg)) (zh_J s0 a_9 ((((6 : Int32) * i8) + (2 : Int32)).toNatClampNeg))) fun i_12 =>
        if i_12 = 0 then
          zb_M_listFor_97 n (zl_M_listFor_15 n k) s0 a0 i1 i2 j3 i5 j6 i8
        else
          if (lg_cmp j6 (0 : Int64)) = 0 then
            zb_M_listFor_93 n (zl_M_listFor_15 n k) s0 a0 i1 i2 j3 i5 j6 i8
          else
            if (lg_cmp (j6 &&& (2 : Int64)) (0 : Int64)) = 0 then
              zb_M_listFor_97 n (zl_M_listFor_15 n k) s0 a0 i1 i2 j3 i5 j6 i8
            else
              zb_M_listFor_93 n (zl_M_listFor_15 n k) s0 a0 i1 i2 j3 i5 j6 i8
        else none
        else none
      else
        zb_M_listFor_97 n (zl_M_listFor_15 n k) s0 a0 i1 i2 j3 i5 j6 i8
      else none
    else none
def zf_M_listFor (n : Nat) (s0 : zh_S) (a0 : Nat) (i1 : Int32) (i2 : Int32) (j3 : Int64) : Option Int32 :=
  if zh_oo s0 a0 8 then
  zk_p (zf_M_of n s0 a0 i2 (10 : Int32)) fun j_2 =>
  zl_M_listFor_15 n n s0 a0 i1 i2 j3 (-1 : Int32) j_2 (0 : Int32)
  else none
def zb_M_isRevoked_75 (n : Nat) (r6 : zh_S → Nat → Int32 → Int32 → Int64 → Int32 → Int32 → Option Int32) (s0 : zh_S) (a0 : Nat) (i1 : Int32) (i2 : Int32) (j3 : Int64) (i6 : Int32) (it0 : Int32) : Option Int32 :=
  zk_l (i6 + (1 : Int32)) fun i_1 =>
  r6 s0 a0 i1 i2 j3 it0 i_1
def zb_M_isRevoked_70 (n : Nat) (r6 : zh_S → Nat → Int32 → Int32 → Int64 → Int32 → Int32 → Option Int32) (s0 : zh_S) (a0 : Nat) (i1 : Int32) (i2 : Int32) (j3 : Int64) (i6 : Int32) : Option Int32 :=
  zb_M_isRevoked_75 n r6 s0 a0 i1 i2 j3 i6 (1 : Int32)
def zb_M_isRevoked_74 (n : Nat) (r6 : zh_S → Nat → Int32 → Int32 → Int64 → Int32 → Int32 → Option Int32) (s0 : zh_S) (a0 : Nat) (i1 : Int32) (i2 : Int32) (j3 : Int64) (i6 : Int32) : Option Int32 :=
  zb_M_isRevoked_75 n r6 s0 a0 i1 i2 j3 i6 (0 : Int32)
def zl_M_isRevoked_6 (n : Nat) : Nat → zh_S → Nat → Int32 → Int32 → Int64 → Int32 → Int32 → Option Int32
  | 0, _, _, _, _, _, _, _ => none
  | k + 1, s0, a0, i1, i2, j3, i5, i6 =>
    if i2 < 0 then
      if i5 = 0 ∨ i5 = 1 then
      some i5
      else none
    else
      if zh_oo s0 a0 8 then
      zk_p (zh_R s0 a0 18) fun a_3 =>
      if zh_oa s0 a_3 1 (((6 : Int32) * i2) + (3 : Int32)) then
      if 0 ≤ (lg_cmp (i6.toInt64) (zh_J s0 a_3 ((((6 : Int32) * i2) + (3 : Int32)).toNatClampNeg))) then
        if i5 = 0 ∨ i5 = 1 then
        some i5
        else none
      else
        if i5 = 0 then
          zk_p (zh_R s0 a0 19) fun a_7 =>
          if zh_oa s0 a_7 1 (((4 : Int32) * i2) + i6) then
          zk_p (zf_M_of n s0 a0 i1 (0 : Int32)) fun j_10 =>
          if (lg_cmp (zh_J s0 a_7 ((((4 : Int32) * i2) + i6).toNatClampNeg)) j_10) = 0 then
            zk_p (zh_R s0 a0 20) fun a_11 =>
            if zh_oa s0 a_11 1 (((4 : Int32) * i2) + i6) then
            if 0 < (lg_cmp (zh_J s0 a_11 ((((4 : Int32) * i2) + i6).toNatClampNeg)) j3) then
              zb_M_isRevoked_74 n (zl_M_isRevoked_6 n k) s0 a0 i1 i2 j3 i6
            else
              zb_M_isRevoked_70 n (zl_M_isRevoked_6 n k) s0 a0 i1 i2 j3 i6
            else none
          else
            zb_M_isRevoked_74 n (zl_M_isRevoked_6 n k) s0 a0 i1 i2 j3 i6
          else none
        else
          zb_M_isRevoked_70 n (zl_M_isRevoked_6 n k) s0 a0 i1 i2 j3 i6
      else none
      else none
def zf_M_isRevoked (n : Nat) (s0 : zh_S) (a0 : Nat) (i1 : Int32) (i2 : Int32) (j3 : Int64) : Option Int32 :=
  zl_M_isRevoked_6 n n s0 a0 i1 i2 j3 (0 : Int32) (0 : Int32)
def zl_M_letters_2 (n : Nat) : Nat → Int64 → Int32 → Option Int32
  | 0, _, _ => none
  | k + 1, j0, i2 =>
    if (8 : Int32) ≤ i2 then
      some i2
    else
      if (lg_cmp ((j0 >>> (((5 : Int32) * i2).toInt64 &&& 63)) &&& (31 : Int64)) (0 : Int64)) ≤ 0 then
        some i2
      else
        zk_l (i2 + (1 : Int32)) fun i_1 =>
        zl_M_letters_2 n k j0 i_1
def zf_M_letters (n : Nat) (j0 : Int64) : Option Int32 :=
  zl_M_letters_2 n n j0 (0 : Int32)
def zf_M_within (n : Nat) (j0 : Int64) (j2 : Int64) : Option Int32 :=
  zk_p (zf_M_letters n j0) fun i_1 =>
  zk_p (zf_M_letters n j2) fun i_2 =>
  zk_l ((i_1 - i_2)) fun i_3 =>
  if (1 : Int32) ≤ i_3 then
    if (lg_cmp (j0 >>> (((5 : Int32) * i_3).toInt64 &&& 63)) j2) = 0 then
      if (lg_cmp ((j0 >>> (((5 : Int32) * (i_3 - (1 : Int32))).toInt64 &&& 63)) &&& (31 : Int64)) (27 : Int64)) = 0 then
        some (1 : Int32)
      else
        some (0 : Int32)
    else
      some (0 : Int32)
  else
    if (lg_cmp j0 j2) = 0 then
      some (1 : Int32)
    else
      some (0 : Int32)
def zb_M_keptOut_100 (n : Nat) (r20 : zh_S → Nat → Int32 → Int64 → Int32 → Int32 → Option Int32) (s0 : zh_S) (a0 : Nat) (i2 : Int32) (j3 : Int64) (i6 : Int32) (it0 : Int32) : Option Int32 :=
  zk_l (i6 + (1 : Int32)) fun i_1 =>
  r20 s0 a0 i2 j3 it0 i_1
def zb_M_keptOut_95 (n : Nat) (r20 : zh_S → Nat → Int32 → Int64 → Int32 → Int32 → Option Int32) (s0 : zh_S) (a0 : Nat) (i2 : Int32) (j3 : Int64) (i6 : Int32) : Option Int32 :=
  zb_M_keptOut_100 n r20 s0 a0 i2 j3 i6 (1 : Int32)
def zb_M_keptOut_99 (n : Nat) (r20 : zh_S → Nat → Int32 → Int64 → Int32 → Int32 → Option Int32) (s0 : zh_S) (a0 : Nat) (i2 : Int32) (j3 : Int64) (i6 : Int32) : Option Int32 :=
  zb_M_keptOut_100 n r20 s0 a0 i2 j3 i6 (0 : Int32)
def zb_M_keptOut_79 (n : Nat) (r20 : zh_S → Nat → Int32 → Int64 → Int32 → Int32 → Option Int32) (s0 : zh_S) (a0 : Nat) (i2 : Int32) (j3 : Int64) (i6 : Int32) (j9 : Int64) : Option Int32 :=
  if (lg_cmp j9 (0 : Int64)) = 0 then
    zb_M_keptOut_99 n r20 s0 a0 i2 j3 i6
  else
    zk_p (zf_M_within n j3 j9) fun i_1 =>
    if i_1 = 0 then
      zb_M_keptOut_99 n r20 s0 a0 i2 j3 i6
    else
      zb_M_keptOut_95 n r20 s0 a0 i2 j3 i6
def zl_M_keptOut_20 (n : Nat) : Nat → zh_S → Nat → Int32 → Int64 → Int32 → Int32 → Option Int32
  | 0, _, _, _, _, _, _ => none
  | k + 1, s0, a0, i2, j3, i5, i6 =>
    if (i2 - (1 : Int32)) ≤ i6 then
      if i5 = 0 ∨ i5 = 1 then
      some i5
      else none
    else
      if zh_oo s0 a0 8 then
      zk_p (zh_R s0 a0 21) fun a_3 =>
      if zh_oa s0 a_3 0 i6 then
      zk_p (zf_M_of n s0 a0 (zh_I s0 a_3 (i6.toNatClampNeg)) (11 : Int32)) fun j_6 =>
      zk_p (zh_R s0 a0 21) fun a_7 =>
      if zh_oa s0 a_7 0 i6 then
      zk_p (zf_M_of n s0 a0 (zh_I s0 a_7 (i6.toNatClampNeg)) (12 : Int32)) fun j_10 =>
      if i5 = 0 then
        if (lg_cmp j_6 (0 : Int64)) = 0 then
          zb_M_keptOut_79 n (zl_M_keptOut_20 n k) s0 a0 i2 j3 i6 j_10
        else
          zk_p (zf_M_within n j3 j_6) fun i_11 =>
          if i_11 = 0 then
            zb_M_keptOut_95 n (zl_M_keptOut_20 n k) s0 a0 i2 j3 i6
          else
            zb_M_keptOut_79 n (zl_M_keptOut_20 n k) s0 a0 i2 j3 i6 j_10
      else
        zb_M_keptOut_95 n (zl_M_keptOut_20 n k) s0 a0 i2 j3 i6
      else none
      else none
      else none
def zf_M_keptOut (n : Nat) (s0 : zh_S) (a0 : Nat) (i1 : Int32) (i2 : Int32) : Option Int32 :=
  if zh_oo s0 a0 8 then
  zk_p (zh_R s0 a0 21) fun a_2 =>
  if zh_oa s0 a_2 0 i1 then
  zk_p (zf_M_of n s0 a0 (zh_I s0 a_2 (i1.toNatClampNeg)) (4 : Int32)) fun j_5 =>
  zk_l ((i1 + (1 : Int32))) fun i_6 =>
  zl_M_keptOut_20 n n s0 a0 i2 j_5 (0 : Int32) i_6
  else none
  else none
def zb_M_between_41 (n : Nat) (r4 : zh_S → Nat → Int32 → Int32 → Int32 → Option Int32) (s0 : zh_S) (a0 : Nat) (i1 : Int32) (i3 : Int32) (it0 : Int32) (it1 : Int32) : Option Int32 :=
  zk_l ((it0 + it1)) fun i_1 =>
  zk_l (i3 + (1 : Int32)) fun i_2 =>
  r4 s0 a0 i1 i_1 i_2
def zl_M_between_4 (n : Nat) : Nat → zh_S → Nat → Int32 → Int32 → Int32 → Option Int32
  | 0, _, _, _, _, _ => none
  | k + 1, s0, a0, i1, i2, i3 =>
    if i1 ≤ i3 then
      some i2
    else
      if zh_oo s0 a0 8 then
      zk_p (zh_R s0 a0 21) fun a_2 =>
      if zh_oa s0 a_2 0 i3 then
      zk_p (zf_M_of n s0 a0 (zh_I s0 a_2 (i3.toNatClampNeg)) (1 : Int32)) fun j_5 =>
      zk_p (zh_R s0 a0 21) fun a_6 =>
      if zh_oa s0 a_6 0 i3 then
      zk_p (zf_M_of n s0 a0 (zh_I s0 a_6 (i3.toNatClampNeg)) (4 : Int32)) fun j_9 =>
      if (lg_cmp j_5 j_9) = 0 then
        zb_M_between_41 n (zl_M_between_4 n k) s0 a0 i1 i3 i2 (0 : Int32)
      else
        zb_M_between_41 n (zl_M_between_4 n k) s0 a0 i1 i3 i2 (1 : Int32)
      else none
      else none
      else none
def zf_M_between (n : Nat) (s0 : zh_S) (a0 : Nat) (i1 : Int32) : Option Int32 :=
  zl_M_between_4 n n s0 a0 i1 (0 : Int32) (1 : Int32)
def zb_M_against_186 (n : Nat) (s0 : zh_S) (a0 : Nat) (i6 : Int32) : Option Int32 :=
  if zh_oo s0 a0 8 then
  zk_p (zf_M_of n s0 a0 i6 (10 : Int32)) fun j_2 =>
  if (lg_cmp j_2 (0 : Int64)) = 0 then
    some (0 : Int32)
  else
    zk_p (zf_M_of n s0 a0 i6 (10 : Int32)) fun j_3 =>
    if (lg_cmp (j_3 &&& (1 : Int64)) (0 : Int64)) = 0 then
      some (9 : Int32)
    else
      some (0 : Int32)
  else none
def zb_M_against_105 (n : Nat) (s0 : zh_S) (a0 : Nat) (i1 : Int32) (i2 : Int32) (i6 : Int32) : Option Int32 :=
  if zh_oo s0 a0 8 then
  zk_p (zf_M_keptOut n s0 a0 i1 i2) fun i_2 =>
  if i_2 = 0 then
    zk_p (zf_M_flag n s0 a0 i6 (8 : Int64)) fun i_3 =>
    if i_3 = 0 then
      if i1 = 0 then
        some (0 : Int32)
      else
        zk_p (zf_M_flag n s0 a0 i6 (4 : Int64)) fun i_4 =>
        if i_4 = 0 then
          some (7 : Int32)
        else
          zk_p (zf_M_of n s0 a0 i6 (9 : Int32)) fun j_5 =>
          if (lg_cmp j_5 (0 : Int64)) < 0 then
            zb_M_against_186 n s0 a0 i6
          else
            zk_p (zf_M_between n s0 a0 i1) fun i_6 =>
            zk_p (zf_M_of n s0 a0 i6 (9 : Int32)) fun j_7 =>
            if (lg_cmp (i_6.toInt64) j_7) ≤ 0 then
              zb_M_against_186 n s0 a0 i6
            else
              some (8 : Int32)
    else
      some (6 : Int32)
  else
    some (5 : Int32)
  else none
def zf_M_against (n : Nat) (s0 : zh_S) (a0 : Nat) (i1 : Int32) (i2 : Int32) (j3 : Int64) (i5 : Int32) : Option Int32 :=
  if zh_oo s0 a0 8 then
  zk_p (zh_R s0 a0 21) fun a_2 =>
  if zh_oa s0 a_2 0 i1 then
  zk_l ((zh_I s0 a_2 (i1.toNatClampNeg))) fun i_5 =>
  zk_p (zh_R s0 a0 21) fun a_6 =>
  if zh_oa s0 a_6 0 (i1 + (1 : Int32)) then
  zk_l ((zh_I s0 a_6 ((i1 + (1 : Int32)).toNatClampNeg))) fun i_9 =>
  zk_p (zf_M_of n s0 a0 i_5 (7 : Int32)) fun j_10 =>
  zk_p (zf_M_of n s0 a0 i_5 (8 : Int32)) fun j_11 =>
  zk_p (zf_M_signedBy n s0 a0 j_10 j_11 i_9) fun i_12 =>
  if i_12 = 0 then
    some (1 : Int32)
  else
    zk_p (zf_M_of n s0 a0 i_5 (2 : Int32)) fun j_13 =>
    zk_p (zf_M_of n s0 a0 i_5 (3 : Int32)) fun j_14 =>
    zk_p (zf_M_in n j3 j_13 j_14) fun i_15 =>
    if i_15 = 0 then
      some (2 : Int32)
    else
      zk_p (zf_M_listFor n s0 a0 i_5 i_9 j3) fun i_16 =>
      zk_p (zf_M_isRevoked n s0 a0 i_5 i_16 j3) fun i_17 =>
      if i_17 = 0 then
        if i5 = 0 then
          zb_M_against_105 n s0 a0 i1 i2 i_5
        else
          if 0 ≤ i_16 then
            zb_M_against_105 n s0 a0 i1 i2 i_5
          else
            some (4 : Int32)
      else
        some (3 : Int32)
  else none
  else none
  else none
def zb_M_holds_42 (n : Nat) (s0 : zh_S) (a0 : Nat) : Option (Int32 × zh_S) :=
  if zh_oo s0 a0 8 then
  if (zh_I s0 a0 26) = 0 then
    some ((1 : Int32), s0)
  else
    some ((0 : Int32), s0)
  else none
def zl_M_holds_10 (n : Nat) : Nat → zh_S → Nat → Int32 → Int64 → Int32 → Int32 → Option (Int32 × zh_S)
  | 0, _, _, _, _, _, _ => none
  | k + 1, s0, a0, i1, j2, i4, i5 =>
    if i5 < 0 then
      zb_M_holds_42 n s0 a0
    else
      if zh_oo s0 a0 8 then
      if (zh_I s0 a0 26) = 0 then
        zk_p (zf_M_against n s0 a0 i5 i1 j2 i4) fun i_2 =>
        zk_l (zh_uI s0 a0 26 i_2) fun s_3 =>
        zk_l (i5 + (-1 : Int32)) fun i_4 =>
        zl_M_holds_10 n k s_3 a0 i1 j2 i4 i_4
      else
        zb_M_holds_42 n s0 a0
      else none
def zf_M_holds (n : Nat) (s0 : zh_S) (a0 : Nat) (i1 : Int32) (j2 : Int64) (i4 : Int32) : Option (Int32 × zh_S) :=
  if zh_oo s0 a0 8 then
  zk_l (zh_uI s0 a0 26 (0 : Int32)) fun s_1 =>
  zk_l ((i1 - (2 : Int32))) fun i_3 =>
  zl_M_holds_10 n n s_1 a0 i1 j2 i4 i_3
  else none
def zb_M_search_190 (n : Nat) (r13 : zh_S → Nat → Int64 → Int32 → Int32 → Int32 → Int32 → Option (Int32 × zh_S)) (s0 : zh_S) (a0 : Nat) (j1 : Int64) (i3 : Int32) (i4 : Int32) (i5 : Int32) (i6 : Int32) : Option (Int32 × zh_S) :=
  r13 s0 a0 j1 i3 i4 i5 i6
def zb_M_search_141 (n : Nat) (r13 : zh_S → Nat → Int64 → Int32 → Int32 → Int32 → Int32 → Option (Int32 × zh_S)) (s0 : zh_S) (a0 : Nat) (j1 : Int64) (i3 : Int32) (i4 : Int32) (i5 : Int32) (i8 : Int32) (it0 : Int32) : Option (Int32 × zh_S) :=
  if it0 = 0 then
    zk_l (i5 + (-1 : Int32)) fun i_1 =>
    zb_M_search_190 n r13 s0 a0 j1 i3 i4 i_1 it0
  else
    if zh_oo s0 a0 8 then
    zk_p (zh_R s0 a0 22) fun a_3 =>
    if zh_oa s0 a_3 0 (i5 - (1 : Int32)) then
    zk_l (zh_uI s0 a_3 ((i5 - (1 : Int32)).toNatClampNeg) (i8 + (1 : Int32))) fun s_5 =>
    if zh_oo s_5 a0 8 then
    zk_p (zh_R s_5 a0 21) fun a_8 =>
    if ¬ (12 : Int32) = 0 then
    if zh_oa s_5 a_8 0 i5 then
    zk_l (zh_uI s_5 a_8 (i5.toNatClampNeg) (i8 - i8 / (12 : Int32) * (12 : Int32))) fun s_11 =>
    if zh_oo s_11 a0 8 then
    zk_p (zh_R s_11 a0 22) fun a_14 =>
    if zh_oa s_11 a_14 0 i5 then
    zk_l (zh_uI s_11 a_14 (i5.toNatClampNeg) (0 : Int32)) fun s_16 =>
    zk_l (i5 + (1 : Int32)) fun i_18 =>
    zb_M_search_190 n r13 s_16 a0 j1 i3 i4 i_18 it0
    else none
    else none
    else none
    else none
    else none
    else none
    else none
def zb_M_search_129 (n : Nat) (r13 : zh_S → Nat → Int64 → Int32 → Int32 → Int32 → Int32 → Option (Int32 × zh_S)) (s0 : zh_S) (a0 : Nat) (j1 : Int64) (i3 : Int32) (i4 : Int32) (i5 : Int32) (i8 : Int32) : Option (Int32 × zh_S) :=
  if (24 : Int32) ≤ i8 then
    zb_M_search_141 n r13 s0 a0 j1 i3 i4 i5 i8 (0 : Int32)
  else
    zb_M_search_141 n r13 s0 a0 j1 i3 i4 i5 i8 (1 : Int32)
def zl_M_search_105 (n : Nat) (r13 : zh_S → Nat → Int64 → Int32 → Int32 → Int32 → Int32 → Option (Int32 × zh_S)) : Nat → zh_S → Nat → Int64 → Int32 → Int32 → Int32 → Int32 → Option (Int32 × zh_S)
  | 0, _, _, _, _, _, _, _ => none
  | k + 1, s0, a0, j1, i3, i4, i5, i8 =>
    if (24 : Int32) ≤ i8 then
      zb_M_search_129 n r13 s0 a0 j1 i3 i4 i5 i8
    else
      if zh_oo s0 a0 8 then
      zk_p (zf_M_suits n s0 a0 i8 i5) fun i_2 =>
      if i_2 = 0 then
        zk_l (i8 + (1 : Int32)) fun i_3 =>
        zl_M_search_105 n r13 k s0 a0 j1 i3 i4 i5 i_3
      else
        zb_M_search_129 n r13 s0 a0 j1 i3 i4 i5 i8
      else none
def zb_M_search_103 (n : Nat) (r13 : zh_S → Nat → Int64 → Int32 → Int32 → Int32 → Int32 → Option (Int32 × zh_S)) (s0 : zh_S) (a0 : Nat) (j1 : Int64) (i3 : Int32) (i4 : Int32) (i5 : Int32) (it0 : Int32) : Option (Int32 × zh_S) :=
  zl_M_search_105 n r13 n s0 a0 j1 i3 i4 i5 it0
def zb_M_search_89 (n : Nat) (r13 : zh_S → Nat → Int64 → Int32 → Int32 → Int32 → Int32 → Option (Int32 × zh_S)) (s0 : zh_S) (a0 : Nat) (j1 : Int64) (i3 : Int32) (i4 : Int32) (i5 : Int32) : Option (Int32 × zh_S) :=
  zb_M_search_103 n r13 s0 a0 j1 i3 i4 i5 (24 : Int32)
def zb_M_search_78 (n : Nat) (r13 : zh_S → Nat → Int64 → Int32 → Int32 → Int32 → Int32 → Option (Int32 × zh_S)) (s0 : zh_S) (a0 : Nat) (j1 : Int64) (i3 : Int32) (i4 : Int32) (i5 : Int32) (i7 : Int32) : Option (Int32 × zh_S) :=
  if i7 = 0 then
    if i5 = i3 then
      zb_M_search_89 n r13 s0 a0 j1 i3 i4 i5
    else
      if zh_oo s0 a0 8 then
      zk_p (zh_R s0 a0 22) fun a_2 =>
      if zh_oa s0 a_2 0 (i5 - (1 : Int32)) then
      zb_M_search_103 n r13 s0 a0 j1 i3 i4 i5 (zh_I s0 a_2 ((i5 - (1 : Int32)).toNatClampNeg))
      else none
      else none
  else
    zb_M_search_89 n r13 s0 a0 j1 i3 i4 i5
def zl_M_search_13 (n : Nat) : Nat → zh_S → Nat → Int64 → Int32 → Int32 → Int32 → Int32 → Option (Int32 × zh_S)
  | 0, _, _, _, _, _, _, _ => none
  | k + 1, s0, a0, j1, i3, i4, i5, i6 =>
    if i5 ≤ 0 then
      some ((0 : Int32), s0)
    else
      if zh_oo s0 a0 8 then
      if (40 : Int32) ≤ (zh_I s0 a0 25) then
        some ((0 : Int32), s0)
      else
        zk_p (zh_R s0 a0 21) fun a_2 =>
        if zh_oa s0 a_2 0 (i5 - (1 : Int32)) then
        zk_p (zf_M_flag n s0 a0 (zh_I s0 a_2 ((i5 - (1 : Int32)).toNatClampNeg)) (1 : Int64)) fun i_5 =>
        if i6 = 0 then
          zb_M_search_78 n (zl_M_search_13 n k) s0 a0 j1 i3 i4 i5 i_5
        else
          if i_5 = 0 then
            zb_M_search_78 n (zl_M_search_13 n k) s0 a0 j1 i3 i4 i5 i_5
          else
            zk_l (zh_uI s0 a0 25 ((zh_I s0 a0 25) + (1 : Int32))) fun s_6 =>
            zk_b (zf_M_holds n s_6 a0 i5 j1 i4) fun i_8 s_7 =>
            if i_8 = 0 then
              zb_M_search_78 n (zl_M_search_13 n k) s_7 a0 j1 i3 i4 i5 i_5
            else
              some (i5, s_7)
        else none
      else none
def zf_M_search (n : Nat) (s0 : zh_S) (a0 : Nat) (j1 : Int64) (i3 : Int32) (i4 : Int32) : Option (Int32 × zh_S) :=
  if zh_oo s0 a0 8 then
  zk_p (zh_R s0 a0 22) fun a_2 =>
  if zh_oa s0 a_2 0 (0 : Int32) then
  zk_l (zh_uI s0 a_2 ((0 : Int32).toNatClampNeg) (0 : Int32)) fun s_4 =>
  zl_M_search_13 n n s_4 a0 j1 i3 i4 (1 : Int32) (1 : Int32)
  else none
  else none
def zl_M_validate_65 (n : Nat) : Nat → zh_S → Nat → Int32 → Option (Int32 × zh_S)
  | 0, _, _, _ => none
  | k + 1, s0, a0, i6 =>
    if zh_oo s0 a0 8 then
    if (zh_I s0 a0 24) ≤ i6 then
      if (zh_I s0 a0 24) ≤ 0 then
        if (zh_I s0 a0 25) = 0 then
          some ((0 : Int32), s0)
        else
          some (((-10 : Int32) - (zh_I s0 a0 26)), s0)
      else
        some ((zh_I s0 a0 24), s0)
    else
      zk_p (zh_R s0 a0 23) fun a_2 =>
      zk_p (zh_R s0 a0 21) fun a_4 =>
      if zh_oa s0 a_4 0 (((zh_I s0 a0 24) - (1 : Int32)) - i6) then
      if zh_oa s0 a_2 0 i6 then
      zk_l (zh_uI s0 a_2 (i6.toNatClampNeg) (zh_I s0 a_4 ((((zh_I s0 a0 24) - (1 : Int32)) - i6).toNatClampNeg))) fun s_7 =>
      zk_l (i6 + (1 : Int32)) fun i_9 =>
      zl_M_validate_65 n k s_7 a0 i_9
      else none
      else none
    else none
def zf_M_validate (n : Nat) (s0 : zh_S) (a0 : Nat) (i1 : Int32) (j2 : Int64) (i4 : Int32) (i5 : Int32) : Option (Int32 × zh_S) :=
  if i1 < 0 then
    some ((-1 : Int32), s0)
  else
    if zh_oo s0 a0 8 then
    if (zh_I s0 a0 15) ≤ i1 then
      some ((-1 : Int32), s0)
    else
      if (lg_cmp j2 (0 : Int64)) < 0 then
        some ((-1 : Int32), s0)
      else
        if i4 < (1 : Int32) then
          some ((-1 : Int32), s0)
        else
          if i4 ≤ (5 : Int32) then
            zk_l (zh_uI s0 a0 25 (0 : Int32)) fun s_2 =>
            zk_l (zh_uI s_2 a0 26 (0 : Int32)) fun s_3 =>
            zk_p (zh_R s_3 a0 21) fun a_4 =>
            if zh_oa s_3 a_4 0 (0 : Int32) then
            zk_l (zh_uI s_3 a_4 ((0 : Int32).toNatClampNeg) i1) fun s_6 =>
            if zh_oo s_6 a0 8 then
            zk_b (zf_M_search n s_6 a0 j2 i4 i5) fun i_10 s_8 =>
            if zh_oo s_8 a0 8 then
            zk_l (zh_uI s_8 a0 24 i_10) fun s_11 =>
            zl_M_validate_65 n n s_11 a0 (0 : Int32)
            else none
            else none
            else none
          else
            some ((-1 : Int32), s0)
    else none
def zf_RevokedList_tell (n : Nat) (s0 : zh_S) (a0 : Nat) (i1 : Int32) : Option Int64 :=
  if i1 = 0 then
    if zh_oo s0 a0 3 then
    some (zh_J s0 a0 0)
    else none
  else
  if i1 = 1 then
    if zh_oo s0 a0 3 then
    some (zh_J s0 a0 1)
    else none
  else
  if i1 = 2 then
    if zh_oo s0 a0 3 then
    some (zh_J s0 a0 2)
    else none
  else
  if i1 = 3 then
    if zh_oo s0 a0 3 then
    some ((zh_I s0 a0 8).toInt64)
    else none
  else
  if i1 = 4 then
    if zh_oo s0 a0 3 then
    some (zh_J s0 a0 3)
    else none
  else
  if i1 = 5 then
    if zh_oo s0 a0 3 then
    some ((zh_I s0 a0 4).toInt64)
    else none
  else
    some (-1 : Int64)
def zf_V_list (n : Nat) (s0 : zh_S) (a0 : Nat) (i1 : Int32) (i2 : Int32) : Option Int64 :=
  if i1 < 0 then
    some (-1 : Int64)
  else
    if zh_oo s0 a0 7 then
    zk_p (zh_R s0 a0 2) fun a_2 =>
    if zh_oo s0 a_2 5 then
    if (zh_I s0 a_2 3) ≤ i1 then
      some (-1 : Int64)
    else
      zk_p (zh_R s0 a0 2) fun a_5 =>
      if zh_oo s0 a_5 5 then
      zk_p (zh_R s0 a_5 1) fun a_8 =>
      if zh_oa s0 a_8 4 i1 then
      zk_p (zh_R s0 a_8 (i1.toNatClampNeg)) fun a_11 =>
      if zh_oo s0 a_11 3 then
      zk_p (zf_RevokedList_tell n s0 a_11 i2) fun j_14 =>
      some j_14
      else none
      else none
      else none
    else none
    else none
def zf_M_list (n : Nat) (s0 : zh_S) (a0 : Nat) (i1 : Int32) (i2 : Int32) : Option Int64 :=
  if i1 < 0 then
    some (-1 : Int64)
  else
    if zh_oo s0 a0 8 then
    if (zh_I s0 a0 17) ≤ i1 then
      some (-1 : Int64)
    else
      if i2 < 0 then
        some (-1 : Int64)
      else
        if i2 ≤ (5 : Int32) then
          zk_p (zh_R s0 a0 18) fun a_2 =>
          if zh_oa s0 a_2 1 (((6 : Int32) * i1) + i2) then
          some (zh_J s0 a_2 ((((6 : Int32) * i1) + i2).toNatClampNeg))
          else none
        else
          some (-1 : Int64)
    else none
def zb_Certificate_tell_172 (n : Nat) (s0 : zh_S) (a0 : Nat) (it0 : Int32) (it1 : Int32) : Option Int64 :=
  if zh_oo s0 a0 0 then
  if (zh_I s0 a0 16) = 0 then
    some (((it0 + it1) + (0 : Int32)).toInt64)
  else
    some (((it0 + it1) + (4 : Int32)).toInt64)
  else none
def zb_Certificate_tell_160 (n : Nat) (s0 : zh_S) (a0 : Nat) (it0 : Int32) : Option Int64 :=
  if zh_oo s0 a0 0 then
  if (zh_I s0 a0 15) = 0 then
    zb_Certificate_tell_172 n s0 a0 it0 (0 : Int32)
  else
    zb_Certificate_tell_172 n s0 a0 it0 (2 : Int32)
  else none
def zf_Certificate_tell (n : Nat) (s0 : zh_S) (a0 : Nat) (i1 : Int32) : Option Int64 :=
  if i1 = 0 then
    if zh_oo s0 a0 0 then
    some (zh_J s0 a0 6)
    else none
  else
  if i1 = 1 then
    if zh_oo s0 a0 0 then
    some (zh_J s0 a0 0)
    else none
  else
  if i1 = 2 then
    if zh_oo s0 a0 0 then
    some (zh_J s0 a0 1)
    else none
  else
  if i1 = 3 then
    if zh_oo s0 a0 0 then
    some (zh_J s0 a0 2)
    else none
  else
  if i1 = 4 then
    if zh_oo s0 a0 0 then
    some (zh_J s0 a0 7)
    else none
  else
  if i1 = 5 then
    if zh_oo s0 a0 0 then
    some (zh_J s0 a0 8)
    else none
  else
  if i1 = 6 then
    if zh_oo s0 a0 0 then
    some (zh_J s0 a0 9)
    else none
  else
  if i1 = 7 then
    if zh_oo s0 a0 0 then
    some (zh_J s0 a0 3)
    else none
  else
  if i1 = 8 then
    if zh_oo s0 a0 0 then
    some ((zh_I s0 a0 4).toInt64)
    else none
  else
  if i1 = 9 then
    if zh_oo s0 a0 0 then
    some (zh_J s0 a0 10)
    else none
  else
  if i1 = 10 then
    if zh_oo s0 a0 0 then
    some (zh_J s0 a0 11)
    else none
  else
  if i1 = 11 then
    if zh_oo s0 a0 0 then
    some (zh_J s0 a0 12)
    else none
  else
  if i1 = 12 then
    if zh_oo s0 a0 0 then
    some (zh_J s0 a0 13)
    else none
  else
  if i1 = 13 then
    if zh_oo s0 a0 0 then
    some ((zh_I s0 a0 14).toInt64)
    else none
  else
  if i1 = 14 then
    if zh_oo s0 a0 0 then
    if (zh_I s0 a0 18) = 0 then
      zb_Certificate_tell_160 n s0 a0 (0 : Int32)
    else
      zb_Certificate_tell_160 n s0 a0 (1 : Int32)
    else none
  else
    some (-1 : Int64)
def zf_V_certificate (n : Nat) (s0 : zh_S) (a0 : Nat) (i1 : Int32) (i2 : Int32) : Option Int64 :=
  if zh_oo s0 a0 7 then
  zk_p (zh_R s0 a0 2) fun a_2 =>
  if zh_oo s0 a_2 5 then
  zk_p (zf_Shelf_hasCertificate n s0 a_2 i1) fun i_5 =>
  if i_5 = 0 then
    some (-1 : Int64)
  else
    zk_p (zh_R s0 a0 2) fun a_6 =>
    if zh_oo s0 a_6 5 then
    zk_p (zh_R s0 a_6 0) fun a_9 =>
    if zh_oa s0 a_9 3 i1 then
    zk_p (zh_R s0 a_9 (i1.toNatClampNeg)) fun a_12 =>
    if zh_oo s0 a_12 0 then
    zk_p (zf_Certificate_tell n s0 a_12 i2) fun j_15 =>
    some j_15
    else none
    else none
    else none
  else none
  else none
def zf_M_certificate (n : Nat) (s0 : zh_S) (a0 : Nat) (i1 : Int32) (i2 : Int32) : Option Int64 :=
  if i1 < 0 then
    some (-1 : Int64)
  else
    if zh_oo s0 a0 8 then
    if (zh_I s0 a0 15) ≤ i1 then
      some (-1 : Int64)
    else
      if i2 < 0 then
        some (-1 : Int64)
      else
        if i2 ≤ (14 : Int32) then
          zk_p (zf_M_of n s0 a0 i1 i2) fun j_2 =>
          if i2 = (14 : Int32) then
            some (j_2 &&& (7 : Int64))
          else
            some j_2
        else
          some (-1 : Int64)
    else none
def zf_Reader_init (n : Nat) (s0 : zh_S) (a0 : Nat) (a1 : Nat) : Option zh_S :=
  if zh_oo s0 a0 2 then
  zk_l (zh_uI s0 a0 1 (0 : Int32)) fun s_1 =>
  zk_l (zh_uI s_1 a0 2 (0 : Int32)) fun s_3 =>
  zk_l (zh_uR s_3 a0 0 (some a1)) fun s_4 =>
  some s_4
  else none
def zf_Shelf_nextCertificate (n : Nat) (s0 : zh_S) (a0 : Nat) : Option Nat :=
  if zh_oo s0 a0 5 then
  zk_p (zh_R s0 a0 0) fun a_2 =>
  if zh_oa s0 a_2 3 (zh_I s0 a0 2) then
  zk_p (zh_R s0 a_2 ((zh_I s0 a0 2).toNatClampNeg)) fun a_5 =>
  some a_5
  else none
  else none
def zf_Certificate_forget (n : Nat) (s0 : zh_S) (a0 : Nat) : Option zh_S :=
  if zh_oo s0 a0 0 then
  zk_l (zh_uJ s0 a0 10 (-1 : Int64)) fun s_1 =>
  zk_l (zh_uJ s_1 a0 11 (0 : Int64)) fun s_3 =>
  zk_l (zh_uJ s_3 a0 12 (0 : Int64)) fun s_4 =>
  zk_l (zh_uJ s_4 a0 13 (0 : Int64)) fun s_5 =>
  zk_l (zh_uI s_5 a0 14 (0 : Int32)) fun s_6 =>
  zk_l (zh_uI s_6 a0 15 (0 : Int32)) fun s_7 =>
  zk_l (zh_uI s_7 a0 16 (0 : Int32)) fun s_8 =>
  zk_l (zh_uI s_8 a0 17 (0 : Int32)) fun s_9 =>
  some s_9
  else none
def zf_Reader_fail (n : Nat) (s0 : zh_S) (a0 : Nat) (i1 : Int32) (i2 : Int32) : Option (Int32 × zh_S) :=
  if zh_oo s0 a0 2 then
  if (zh_I s0 a0 2) = 0 then
    zk_l (zh_uI s0 a0 2 (i1 + ((16 : Int32) * i2))) fun s_2 =>
    some (i2, s_2)
  else
    some (i2, s0)
  else none
def zb_Reader_open_176 (n : Nat) (s0 : zh_S) (a0 : Nat) (i2 : Int32) (i3 : Int32) (i4 : Int32) : Option (Int32 × zh_S) :=
  if zh_oo s0 a0 2 then
  if i4 ≤ (i2 - (zh_I s0 a0 1)) then
    some (((zh_I s0 a0 1) + i4), s0)
  else
    zk_b (zf_Reader_fail n s0 a0 (1 : Int32) i3) fun i_3 s_2 =>
    some (i_3, s_2)
  else none
def zf_Reader_open (n : Nat) (s0 : zh_S) (a0 : Nat) (i1 : Int32) (i2 : Int32) : Option (Int32 × zh_S) :=
  if zh_oo s0 a0 2 then
  zk_l ((zh_I s0 a0 1)) fun i_2 =>
  if (zh_I s0 a0 2) = 0 then
    if (zh_I s0 a0 1) < i2 then
      zk_p (zh_R s0 a0 0) fun a_3 =>
      if zh_oo s0 a_3 1 then
      zk_p (zh_R s0 a_3 0) fun a_6 =>
      if zh_oa s0 a_6 0 (zh_I s0 a0 1) then
      if (zh_I s0 a_6 ((zh_I s0 a0 1).toNatClampNeg)) = i1 then
        zk_l (zh_uI s0 a0 1 ((zh_I s0 a0 1) + (1 : Int32))) fun s_9 =>
        if (zh_I s_9 a0 1) < i2 then
          zk_p (zh_R s_9 a0 0) fun a_10 =>
          if zh_oo s_9 a_10 1 then
          zk_p (zh_R s_9 a_10 0) fun a_13 =>
          if zh_oa s_9 a_13 0 (zh_I s_9 a0 1) then
          zk_l ((zh_I s_9 a_13 ((zh_I s_9 a0 1).toNatClampNeg))) fun i_16 =>
          zk_l (zh_uI s_9 a0 1 ((zh_I s_9 a0 1) + (1 : Int32))) fun s_17 =>
          if i_16 ≤ (127 : Int32) then
            zb_Reader_open_176 n s_17 a0 i2 i_2 i_16
          else
            if i_16 = (129 : Int32) then
              if (zh_I s_17 a0 1) < i2 then
                zk_p (zh_R s_17 a0 0) fun a_18 =>
                if zh_oo s_17 a_18 1 then
                zk_p (zh_R s_17 a_18 0) fun a_21 =>
                if zh_oa s_17 a_21 0 (zh_I s_17 a0 1) then
                zk_l ((zh_I s_17 a_21 ((zh_I s_17 a0 1).toNatClampNeg))) fun i_24 =>
                zk_l (zh_uI s_17 a0 1 ((zh_I s_17 a0 1) + (1 : Int32))) fun s_25 =>
                if (127 : Int32) < i_24 then
                  zb_Reader_open_176 n s_25 a0 i2 i_2 i_24
                else
                  zk_b (zf_Reader_fail n s_25 a0 (3 : Int32) i_2) fun i_27 s_26 =>
                  some (i_27, s_26)
                else none
                else none
              else
                zk_b (zf_Reader_fail n s_17 a0 (1 : Int32) i_2) fun i_29 s_28 =>
                some (i_29, s_28)
            else
              zk_b (zf_Reader_fail n s_17 a0 (3 : Int32) i_2) fun i_31 s_30 =>
              some (i_31, s_30)
          else none
          else none
        else
          zk_b (zf_Reader_fail n s_9 a0 (1 : Int32) i_2) fun i_33 s_32 =>
          some (i_33, s_32)
      else
        zk_b (zf_Reader_fail n s0 a0 (2 : Int32) i_2) fun i_35 s_34 =>
        some (i_35, s_34)
      else none
      else none
    else
      zk_b (zf_Reader_fail n s0 a0 (1 : Int32) i_2) fun i_37 s_36 =>
      some (i_37, s_36)
  else
    some (i_2, s0)
  else none
def zf_Reader_isInteger (n : Nat) (s0 : zh_S) (a0 : Nat) (i1 : Int32) : Option Int32 :=
  if zh_oo s0 a0 2 then
  zk_l ((i1 - (zh_I s0 a0 1))) fun i_2 =>
  if i_2 < (1 : Int32) then
    some (0 : Int32)
  else
    if i_2 ≤ (8 : Int32) then
      zk_p (zh_R s0 a0 0) fun a_3 =>
      if zh_oo s0 a_3 1 then
      zk_p (zh_R s0 a_3 0) fun a_6 =>
      if zh_oa s0 a_6 0 (zh_I s0 a0 1) then
      zk_l ((zh_I s0 a_6 ((zh_I s0 a0 1).toNatClampNeg))) fun i_9 =>
      if (128 : Int32) ≤ i_9 then
        some (0 : Int32)
      else
        if 0 < i_9 then
          some (1 : Int32)
        else
          if i_2 = (1 : Int32) then
            some (1 : Int32)
          else
            zk_p (zh_R s0 a0 0) fun a_10 =>
            if zh_oo s0 a_10 1 then
            zk_p (zh_R s0 a_10 0) fun a_13 =>
            if zh_oa s0 a_13 0 ((zh_I s0 a0 1) + (1 : Int32)) then
            if (zh_I s0 a_13 (((zh_I s0 a0 1) + (1 : Int32)).toNatClampNeg)) < (128 : Int32) then
              some (0 : Int32)
            else
              some (1 : Int32)
            else none
            else none
      else none
      else none
    else
      some (0 : Int32)
  else none
def zl_Reader_readInteger_41 (n : Nat) : Nat → zh_S → Nat → Int32 → Int64 → Option (Int64 × zh_S)
  | 0, _, _, _, _ => none
  | k + 1, s0, a0, i3, j4 =>
    if zh_oo s0 a0 2 then
    if i3 ≤ (zh_I s0 a0 1) then
      some (j4, s0)
    else
      zk_p (zh_R s0 a0 0) fun a_2 =>
      if zh_oo s0 a_2 1 then
      zk_p (zh_R s0 a_2 0) fun a_5 =>
      if zh_oa s0 a_5 0 (zh_I s0 a0 1) then
      zk_l (((j4 <<< ((8 : Int32).toInt64 &&& 63)) ||| (zh_I s0 a_5 ((zh_I s0 a0 1).toNatClampNeg)).toInt64)) fun j_8 =>
      zk_l (zh_uI s0 a0 1 ((zh_I s0 a0 1) + (1 : Int32))) fun s_9 =>
      zl_Reader_readInteger_41 n k s_9 a0 i3 j_8
      else none
      else none
    else none
def zf_Reader_readInteger (n : Nat) (s0 : zh_S) (a0 : Nat) (i1 : Int32) : Option (Int64 × zh_S) :=
  if zh_oo s0 a0 2 then
  zk_l ((zh_I s0 a0 1)) fun i_2 =>
  zk_b (zf_Reader_open n s0 a0 (2 : Int32) i1) fun i_4 s_3 =>
  if zh_oo s_3 a0 2 then
  if (zh_I s_3 a0 2) = 0 then
    zk_p (zf_Reader_isInteger n s_3 a0 i_4) fun i_6 =>
    if i_6 = 0 then
      zk_b (zf_Reader_fail n s_3 a0 (4 : Int32) i_2) fun i_8 s_7 =>
      some ((0 : Int64), s_7)
    else
      zl_Reader_readInteger_41 n n s_3 a0 i_4 (0 : Int64)
  else
    some ((0 : Int64), s_3)
  else none
  else none
def zb_Names_isName_62 (n : Nat) (r22 : Int32 → Int64 → Option Int32) (j3 : Int64) (i5 : Int32) : Option Int32 :=
  zk_l ((zu_l j3 (5 : Int32))) fun j_1 =>
  r22 i5 j_1
def zl_Names_isName_22 (n : Nat) : Nat → Int32 → Int64 → Option Int32
  | 0, _, _ => none
  | k + 1, i2, j3 =>
    if (lg_cmp j3 (0 : Int64)) = 0 then
      if i2 = (27 : Int32) then
        some (0 : Int32)
      else
        some (1 : Int32)
    else
      zk_l ((j3.toInt32 &&& (31 : Int32))) fun i_1 =>
      if i_1 = 0 then
        some (0 : Int32)
      else
        if (27 : Int32) < i_1 then
          some (0 : Int32)
        else
          if i_1 = (27 : Int32) then
            if i2 = (27 : Int32) then
              some (0 : Int32)
            else
              zb_Names_isName_62 n (zl_Names_isName_22 n k) j3 i_1
          else
            zb_Names_isName_62 n (zl_Names_isName_22 n k) j3 i_1
def zf_Names_isName (n : Nat) (j0 : Int64) : Option Int32 :=
  if (lg_cmp j0 (0 : Int64)) ≤ 0 then
    some (0 : Int32)
  else
    if (lg_cmp (zu_l j0 (40 : Int32)) (0 : Int64)) = 0 then
      zl_Names_isName_22 n n (27 : Int32) j0
    else
      some (0 : Int32)
def zf_Names_fromAscii (n : Nat) (i0 : Int32) : Option Int32 :=
  if i0 = (46 : Int32) then
    some (27 : Int32)
  else
    if i0 < (97 : Int32) then
      some (31 : Int32)
    else
      if (122 : Int32) < i0 then
        some (31 : Int32)
      else
        some ((i0 - (97 : Int32)) + (1 : Int32))
def zb_Reader_readName_94 (n : Nat) (s0 : zh_S) (a0 : Nat) (i4 : Int32) (j5 : Int64) : Option (Int64 × zh_S) :=
  if zh_oo s0 a0 2 then
  zk_l (zh_uI s0 a0 1 i4) fun s_1 =>
  some (j5, s_1)
  else none
def zb_Reader_readName_79 (n : Nat) (s0 : zh_S) (a0 : Nat) (i3 : Int32) (i4 : Int32) (j5 : Int64) : Option (Int64 × zh_S) :=
  zk_p (zf_Names_isName n j5) fun i_1 =>
  if i_1 = 0 then
    if zh_oo s0 a0 2 then
    zk_b (zf_Reader_fail n s0 a0 (4 : Int32) i3) fun i_4 s_2 =>
    zb_Reader_readName_94 n s_2 a0 i4 j5
    else none
  else
    zb_Reader_readName_94 n s0 a0 i4 j5
def zl_Reader_readName_43 (n : Nat) : Nat → zh_S → Nat → Int32 → Int32 → Int64 → Int32 → Option (Int64 × zh_S)
  | 0, _, _, _, _, _, _ => none
  | k + 1, s0, a0, i3, i4, j5, i7 =>
    if zh_oo s0 a0 2 then
    if i7 < (zh_I s0 a0 1) then
      zb_Reader_readName_79 n s0 a0 i3 i4 j5
    else
      zk_p (zh_R s0 a0 0) fun a_2 =>
      if zh_oo s0 a_2 1 then
      zk_p (zh_R s0 a_2 0) fun a_5 =>
      if zh_oa s0 a_5 0 i7 then
      zk_p (zf_Names_fromAscii n (zh_I s0 a_5 (i7.toNatClampNeg))) fun i_8 =>
      zk_l (((j5 <<< ((5 : Int32).toInt64 &&& 63)) ||| i_8.toInt64)) fun j_9 =>
      zk_l (i7 + (-1 : Int32)) fun i_10 =>
      zl_Reader_readName_43 n k s0 a0 i3 i4 j_9 i_10
      else none
      else none
    else none
def zf_Reader_readName (n : Nat) (s0 : zh_S) (a0 : Nat) (i1 : Int32) (i2 : Int32) : Option (Int64 × zh_S) :=
  if zh_oo s0 a0 2 then
  zk_l ((zh_I s0 a0 1)) fun i_2 =>
  zk_b (zf_Reader_open n s0 a0 i1 i2) fun i_4 s_3 =>
  if zh_oo s_3 a0 2 then
  if (zh_I s_3 a0 2) = 0 then
    if (8 : Int32) < (i_4 - (zh_I s_3 a0 1)) then
      zb_Reader_readName_79 n s_3 a0 i_2 i_4 (0 : Int64)
    else
      zk_l ((i_4 - (1 : Int32))) fun i_6 =>
      zl_Reader_readName_43 n n s_3 a0 i_2 i_4 (0 : Int64) i_6
  else
    some ((0 : Int64), s_3)
  else none
  else none
def zf_Reader_isNext (n : Nat) (s0 : zh_S) (a0 : Nat) (i1 : Int32) (i2 : Int32) : Option Int32 :=
  if zh_oo s0 a0 2 then
  if (zh_I s0 a0 2) = 0 then
    if i2 ≤ (zh_I s0 a0 1) then
      some (0 : Int32)
    else
      zk_p (zh_R s0 a0 0) fun a_2 =>
      if zh_oo s0 a_2 1 then
      zk_p (zh_R s0 a_2 0) fun a_5 =>
      if zh_oa s0 a_5 0 (zh_I s0 a0 1) then
      if (zh_I s0 a_5 ((zh_I s0 a0 1).toNatClampNeg)) = i1 then
        some (1 : Int32)
      else
        some (0 : Int32)
      else none
      else none
  else
    some (0 : Int32)
  else none
def zf_Reader_close (n : Nat) (s0 : zh_S) (a0 : Nat) (i1 : Int32) : Option zh_S :=
  if zh_oo s0 a0 2 then
  if i1 ≤ (zh_I s0 a0 1) then
    some s0
  else
    zk_b (zf_Reader_fail n s0 a0 (5 : Int32) (zh_I s0 a0 1)) fun i_3 s_2 =>
    some s_2
  else none
def zl_Draft_hash_6 (n : Nat) : Nat → zh_S → Nat → Int32 → Int32 → Int32 → Option Int32
  | 0, _, _, _, _, _ => none
  | k + 1, s0, a0, i2, i3, i4 =>
    if i2 ≤ i4 then
      some (i3 ^^^ (zu_i i3 (15 : Int32)))
    else
      if zh_oo s0 a0 1 then
      zk_p (zh_R s0 a0 0) fun a_2 =>
      if zh_oa s0 a_2 0 i4 then
      zk_l (((i3 ^^^ (zh_I s0 a_2 (i4.toNatClampNeg))) * (16777619 : Int32))) fun i_5 =>
      zk_l (i4 + (1 : Int32)) fun i_6 =>
      zl_Draft_hash_6 n k s0 a0 i2 i_5 i_6
      else none
      else none
def zf_Draft_hash (n : Nat) (s0 : zh_S) (a0 : Nat) (i1 : Int32) (i2 : Int32) : Option Int32 :=
  zl_Draft_hash_6 n n s0 a0 i2 (-2128831035 : Int32) i1
def zf_Reader_readSignature_C (n : Nat) (s0 : zh_S) (a0 : Nat) (a1 : Nat) (i2 : Int32) (i3 : Int32) : Option zh_S :=
  if zh_oo s0 a0 2 then
  if (zh_I s0 a0 2) = 0 then
    zk_p (zh_R s0 a0 0) fun a_2 =>
    if zh_oo s0 a_2 1 then
    zk_p (zf_Draft_hash n s0 a_2 i2 (zh_I s0 a0 1)) fun i_5 =>
    if zh_oo s0 a1 0 then
    zk_l (zh_uI s0 a1 4 i_5) fun s_6 =>
    zk_b (zf_Reader_readInteger n s_6 a0 i3) fun j_9 s_8 =>
    if zh_oo s_8 a1 0 then
    zk_l (zh_uJ s_8 a1 3 j_9) fun s_10 =>
    if zh_oo s_10 a0 2 then
    zk_p (zf_Reader_close n s_10 a0 i3) fun s_12 =>
    if zh_oo s_12 a0 2 then
    zk_p (zh_R s_12 a0 0) fun a_15 =>
    if zh_oo s_12 a_15 1 then
    zk_p (zf_Reader_close n s_12 a0 (zh_I s_12 a_15 1)) fun s_18 =>
    some s_18
    else none
    else none
    else none
    else none
    else none
    else none
  else
    some s0
  else none
def zb_Reader_readFlag_67 (n : Nat) (s0 : zh_S) (a0 : Nat) (i3 : Int32) : Option (Int32 × zh_S) :=
  if zh_oo s0 a0 2 then
  zk_l (zh_uI s0 a0 1 i3) fun s_1 =>
  some ((1 : Int32), s_1)
  else none
def zb_Reader_readFlag_60 (n : Nat) (s0 : zh_S) (a0 : Nat) (i2 : Int32) (i3 : Int32) : Option (Int32 × zh_S) :=
  if zh_oo s0 a0 2 then
  zk_b (zf_Reader_fail n s0 a0 (4 : Int32) i2) fun i_3 s_1 =>
  zb_Reader_readFlag_67 n s_1 a0 i3
  else none
def zf_Reader_readFlag (n : Nat) (s0 : zh_S) (a0 : Nat) (i1 : Int32) : Option (Int32 × zh_S) :=
  if zh_oo s0 a0 2 then
  zk_p (zf_Reader_isNext n s0 a0 (1 : Int32) i1) fun i_2 =>
  if i_2 = 0 then
    some ((0 : Int32), s0)
  else
    zk_l ((zh_I s0 a0 1)) fun i_3 =>
    zk_b (zf_Reader_open n s0 a0 (1 : Int32) i1) fun i_5 s_4 =>
    if zh_oo s_4 a0 2 then
    if (zh_I s_4 a0 2) = 0 then
      if (i_5 - (zh_I s_4 a0 1)) = (1 : Int32) then
        zk_p (zh_R s_4 a0 0) fun a_7 =>
        if zh_oo s_4 a_7 1 then
        zk_p (zh_R s_4 a_7 0) fun a_10 =>
        if zh_oa s_4 a_10 0 (zh_I s_4 a0 1) then
        if (zh_I s_4 a_10 ((zh_I s_4 a0 1).toNatClampNeg)) = (255 : Int32) then
          zb_Reader_readFlag_67 n s_4 a0 i_5
        else
          zb_Reader_readFlag_60 n s_4 a0 i_3 i_5
        else none
        else none
      else
        zb_Reader_readFlag_60 n s_4 a0 i_3 i_5
    else
      some ((0 : Int32), s_4)
    else none
  else none
def zf_Reader_skipOpaque (n : Nat) (s0 : zh_S) (a0 : Nat) (i1 : Int32) : Option zh_S :=
  if zh_oo s0 a0 2 then
  zk_b (zf_Reader_open n s0 a0 (4 : Int32) i1) fun i_3 s_1 =>
  if zh_oo s_1 a0 2 then
  if (zh_I s_1 a0 2) = 0 then
    zk_l (zh_uI s_1 a0 1 i_3) fun s_5 =>
    some s_5
  else
    some s_1
  else none
  else none
def zb_Reader_readRealm_80 (n : Nat) (s0 : zh_S) (a0 : Nat) (i4 : Int32) : Option zh_S :=
  if zh_oo s0 a0 2 then
  zk_p (zf_Reader_close n s0 a0 i4) fun s_1 =>
  some s_1
  else none
def zb_Reader_readRealm_55 (n : Nat) (s0 : zh_S) (a0 : Nat) (a1 : Nat) (i4 : Int32) : Option zh_S :=
  if zh_oo s0 a0 2 then
  zk_p (zf_Reader_isNext n s0 a0 (129 : Int32) i4) fun i_2 =>
  if i_2 = 0 then
    zb_Reader_readRealm_80 n s0 a0 i4
  else
    zk_b (zf_Reader_readName n s0 a0 (129 : Int32) i4) fun j_4 s_3 =>
    if zh_oo s_3 a1 0 then
    zk_l (zh_uJ s_3 a1 13 j_4) fun s_5 =>
    zb_Reader_readRealm_80 n s_5 a0 i4
    else none
  else none
def zb_Reader_readRealm_30 (n : Nat) (s0 : zh_S) (a0 : Nat) (a1 : Nat) (i4 : Int32) : Option zh_S :=
  if zh_oo s0 a0 2 then
  zk_p (zf_Reader_isNext n s0 a0 (128 : Int32) i4) fun i_2 =>
  if i_2 = 0 then
    zb_Reader_readRealm_55 n s0 a0 a1 i4
  else
    zk_b (zf_Reader_readName n s0 a0 (128 : Int32) i4) fun j_4 s_3 =>
    if zh_oo s_3 a1 0 then
    zk_l (zh_uJ s_3 a1 12 j_4) fun s_5 =>
    zb_Reader_readRealm_55 n s_5 a0 a1 i4
    else none
  else none
def zf_Reader_readRealm (n : Nat) (s0 : zh_S) (a0 : Nat) (a1 : Nat) (i2 : Int32) : Option zh_S :=
  if zh_oo s0 a0 2 then
  zk_l ((zh_I s0 a0 1)) fun i_2 =>
  zk_b (zf_Reader_open n s0 a0 (48 : Int32) i2) fun i_4 s_3 =>
  if zh_oo s_3 a0 2 then
  if (zh_I s_3 a0 1) = i_4 then
    zk_b (zf_Reader_fail n s_3 a0 (4 : Int32) i_2) fun i_7 s_6 =>
    zb_Reader_readRealm_30 n s_6 a0 a1 i_4
  else
    zb_Reader_readRealm_30 n s_3 a0 a1 i_4
  else none
  else none
def zb_Reader_readUsage_35 (n : Nat) (s0 : zh_S) (a1 : Nat) (j4 : Int64) : Option zh_S :=
  if zh_oo s0 a1 0 then
  zk_l (zh_uJ s0 a1 11 j4) fun s_1 =>
  some s_1
  else none
def zb_Reader_readUsage_28 (n : Nat) (s0 : zh_S) (a0 : Nat) (a1 : Nat) (i3 : Int32) (j4 : Int64) : Option zh_S :=
  if zh_oo s0 a0 2 then
  zk_b (zf_Reader_fail n s0 a0 (4 : Int32) i3) fun i_3 s_1 =>
  zb_Reader_readUsage_35 n s_1 a1 j4
  else none
def zf_Reader_readUsage (n : Nat) (s0 : zh_S) (a0 : Nat) (a1 : Nat) (i2 : Int32) : Option zh_S :=
  if zh_oo s0 a0 2 then
  zk_l ((zh_I s0 a0 1)) fun i_2 =>
  zk_b (zf_Reader_readInteger n s0 a0 i2) fun j_4 s_3 =>
  if (lg_cmp j_4 (1 : Int64)) < 0 then
    zb_Reader_readUsage_28 n s_3 a0 a1 i_2 j_4
  else
    if (lg_cmp j_4 (7 : Int64)) ≤ 0 then
      zb_Reader_readUsage_35 n s_3 a1 j_4
    else
      zb_Reader_readUsage_28 n s_3 a0 a1 i_2 j_4
  else none
def zb_Reader_readBasic_47 (n : Nat) (s0 : zh_S) (a0 : Nat) (i3 : Int32) : Option zh_S :=
  if zh_oo s0 a0 2 then
  zk_p (zf_Reader_close n s0 a0 i3) fun s_1 =>
  some s_1
  else none
def zf_Reader_readBasic (n : Nat) (s0 : zh_S) (a0 : Nat) (a1 : Nat) (i2 : Int32) : Option zh_S :=
  if zh_oo s0 a0 2 then
  zk_b (zf_Reader_open n s0 a0 (48 : Int32) i2) fun i_3 s_1 =>
  if zh_oo s_1 a1 0 then
  zk_l (zh_uI s_1 a1 15 (1 : Int32)) fun s_4 =>
  if zh_oo s_4 a0 2 then
  zk_b (zf_Reader_readFlag n s_4 a0 i_3) fun i_8 s_6 =>
  if zh_oo s_6 a1 0 then
  if i_8 = 0 ∨ i_8 = 1 then
  zk_l (zh_uI s_6 a1 16 i_8) fun s_9 =>
  if (zh_I s_9 a1 16) = 0 then
    zb_Reader_readBasic_47 n s_9 a0 i_3
  else
    if zh_oo s_9 a0 2 then
    zk_p (zf_Reader_isNext n s_9 a0 (2 : Int32) i_3) fun i_12 =>
    if i_12 = 0 then
      zb_Reader_readBasic_47 n s_9 a0 i_3
    else
      zk_b (zf_Reader_readInteger n s_9 a0 i_3) fun j_14 s_13 =>
      if zh_oo s_13 a1 0 then
      zk_l (zh_uJ s_13 a1 10 j_14) fun s_15 =>
      zb_Reader_readBasic_47 n s_15 a0 i_3
      else none
    else none
  else none
  else none
  else none
  else none
  else none
def zb_Reader_readExtension_129 (n : Nat) (s0 : zh_S) (a0 : Nat) (a1 : Nat) (i5 : Int32) (j7 : Int64) : Option (Int64 × zh_S) :=
  if zh_oo s0 a1 0 then
  zk_l (zh_uI s0 a1 14 ((zh_I s0 a1 14) + (1 : Int32))) fun s_2 =>
  if zh_oo s_2 a0 2 then
  zk_p (zf_Reader_close n s_2 a0 i5) fun s_3 =>
  some (j7, s_3)
  else none
  else none
def zb_Reader_readExtension_126 (n : Nat) (s0 : zh_S) (a0 : Nat) (a1 : Nat) (i5 : Int32) (j7 : Int64) (at0 : Nat) (it1 : Int32) : Option (Int64 × zh_S) :=
  if zh_oo s0 at0 0 then
  if it1 = 0 ∨ it1 = 1 then
  zk_l (zh_uI s0 at0 17 it1) fun s_1 =>
  zb_Reader_readExtension_129 n s_1 a0 a1 i5 j7
  else none
  else none
def zb_Reader_readExtension_121 (n : Nat) (s0 : zh_S) (a0 : Nat) (a1 : Nat) (i5 : Int32) (j7 : Int64) (at0 : Nat) : Option (Int64 × zh_S) :=
  zb_Reader_readExtension_126 n s0 a0 a1 i5 j7 at0 (1 : Int32)
def zb_Reader_readExtension_39 (n : Nat) (s0 : zh_S) (a0 : Nat) (a1 : Nat) (i5 : Int32) (j7 : Int64) : Option (Int64 × zh_S) :=
  if zh_oo s0 a0 2 then
  zk_b (zf_Reader_readFlag n s0 a0 i5) fun i_3 s_1 =>
  if (lg_cmp j7 (1 : Int64)) = 0 then
    if zh_oo s_1 a0 2 then
    zk_p (zf_Reader_readBasic n s_1 a0 a1 i5) fun s_11 =>
    zb_Reader_readExtension_129 n s_11 a0 a1 i5 j7
    else none
  else
    if (lg_cmp j7 (2 : Int64)) = 0 then
      if zh_oo s_1 a0 2 then
      zk_p (zf_Reader_readUsage n s_1 a0 a1 i5) fun s_9 =>
      zb_Reader_readExtension_129 n s_9 a0 a1 i5 j7
      else none
    else
      if (lg_cmp j7 (3 : Int64)) = 0 then
        if zh_oo s_1 a0 2 then
        zk_p (zf_Reader_readRealm n s_1 a0 a1 i5) fun s_7 =>
        zb_Reader_readExtension_129 n s_7 a0 a1 i5 j7
        else none
      else
        if zh_oo s_1 a0 2 then
        zk_p (zf_Reader_skipOpaque n s_1 a0 i5) fun s_4 =>
        if zh_oo s_4 a1 0 then
        if (zh_I s_4 a1 17) = 0 then
          if i_3 = 0 then
            zb_Reader_readExtension_126 n s_4 a0 a1 i5 j7 a1 (0 : Int32)
          else
            zb_Reader_readExtension_121 n s_4 a0 a1 i5 j7 a1
        else
          zb_Reader_readExtension_121 n s_4 a0 a1 i5 j7 a1
        else none
        else none
  else none
def zf_Reader_readExtension (n : Nat) (s0 : zh_S) (a0 : Nat) (a1 : Nat) (j2 : Int64) (i4 : Int32) : Option (Int64 × zh_S) :=
  if zh_oo s0 a0 2 then
  zk_b (zf_Reader_open n s0 a0 (48 : Int32) i4) fun i_3 s_1 =>
  if zh_oo s_1 a0 2 then
  zk_l ((zh_I s_1 a0 1)) fun i_5 =>
  zk_b (zf_Reader_readInteger n s_1 a0 i_3) fun j_7 s_6 =>
  if 0 < (lg_cmp j_7 j2) then
    zb_Reader_readExtension_39 n s_6 a0 a1 i_3 j_7
  else
    if zh_oo s_6 a0 2 then
    zk_b (zf_Reader_fail n s_6 a0 (4 : Int32) i_5) fun i_10 s_8 =>
    zb_Reader_readExtension_39 n s_8 a0 a1 i_3 j_7
    else none
  else none
  else none
def zb_Reader_readExtensions_55 (n : Nat) (s0 : zh_S) (a0 : Nat) (i3 : Int32) : Option zh_S :=
  if zh_oo s0 a0 2 then
  zk_p (zf_Reader_close n s0 a0 i3) fun s_1 =>
  some s_1
  else none
def zb_Reader_readExtensions_39 (n : Nat) (r16 : zh_S → Nat → Nat → Int32 → Int64 → Int32 → Option zh_S) (s0 : zh_S) (a0 : Nat) (a1 : Nat) (i3 : Int32) (j4 : Int64) (i6 : Int32) : Option zh_S :=
  if zh_oo s0 a0 2 then
  zk_b (zf_Reader_readExtension n s0 a0 a1 j4 i3) fun j_3 s_1 =>
  zk_l (i6 + (1 : Int32)) fun i_4 =>
  r16 s_1 a0 a1 i3 j_3 i_4
  else none
def zl_Reader_readExtensions_16 (n : Nat) : Nat → zh_S → Nat → Nat → Int32 → Int64 → Int32 → Option zh_S
  | 0, _, _, _, _, _, _ => none
  | k + 1, s0, a0, a1, i3, j4, i6 =>
    if (200 : Int32) ≤ i6 then
      zb_Reader_readExtensions_55 n s0 a0 i3
    else
      if i6 = 0 then
        zb_Reader_readExtensions_39 n (zl_Reader_readExtensions_16 n k) s0 a0 a1 i3 j4 i6
      else
        if zh_oo s0 a0 2 then
        zk_p (zf_Reader_isNext n s0 a0 (48 : Int32) i3) fun i_2 =>
        if i_2 = 0 then
          zb_Reader_readExtensions_55 n s0 a0 i3
        else
          zb_Reader_readExtensions_39 n (zl_Reader_readExtensions_16 n k) s0 a0 a1 i3 j4 i6
        else none
def zf_Reader_readExtensions (n : Nat) (s0 : zh_S) (a0 : Nat) (a1 : Nat) (i2 : Int32) : Option zh_S :=
  if zh_oo s0 a0 2 then
  zk_b (zf_Reader_open n s0 a0 (48 : Int32) i2) fun i_3 s_1 =>
  zl_Reader_readExtensions_16 n n s_1 a0 a1 i_3 (-1 : Int64) (0 : Int32)
  else none
def zb_Reader_readCertificate_124 (n : Nat) (s0 : zh_S) (a0 : Nat) (a1 : Nat) (i2 : Int32) (i3 : Int32) (i4 : Int32) : Option (Int32 × zh_S) :=
  if zh_oo s0 a0 2 then
  zk_p (zf_Reader_close n s0 a0 i4) fun s_1 =>
  if zh_oo s_1 a0 2 then
  zk_p (zf_Reader_readSignature_C n s_1 a0 a1 i3 i2) fun s_3 =>
  if zh_oo s_3 a0 2 then
  some ((zh_I s_3 a0 2), s_3)
  else none
  else none
  else none
def zf_Reader_readCertificate (n : Nat) (s0 : zh_S) (a0 : Nat) (a1 : Nat) : Option (Int32 × zh_S) :=
  if zh_oo s0 a1 0 then
  zk_p (zf_Certificate_forget n s0 a1) fun s_1 =>
  if zh_oo s_1 a0 2 then
  zk_p (zh_R s_1 a0 0) fun a_4 =>
  if zh_oo s_1 a_4 1 then
  zk_b (zf_Reader_open n s_1 a0 (48 : Int32) (zh_I s_1 a_4 1)) fun i_8 s_7 =>
  if zh_oo s_7 a0 2 then
  zk_l ((zh_I s_7 a0 1)) fun i_10 =>
  zk_b (zf_Reader_open n s_7 a0 (48 : Int32) i_8) fun i_12 s_11 =>
  if zh_oo s_11 a0 2 then
  zk_b (zf_Reader_readInteger n s_11 a0 i_12) fun j_15 s_13 =>
  if zh_oo s_13 a1 0 then
  zk_l (zh_uJ s_13 a1 6 j_15) fun s_16 =>
  if zh_oo s_16 a0 2 then
  zk_b (zf_Reader_readName n s_16 a0 (19 : Int32) i_12) fun j_20 s_18 =>
  if zh_oo s_18 a1 0 then
  zk_l (zh_uJ s_18 a1 0 j_20) fun s_21 =>
  if zh_oo s_21 a0 2 then
  zk_b (zf_Reader_readInteger n s_21 a0 i_12) fun j_25 s_23 =>
  if zh_oo s_23 a1 0 then
  zk_l (zh_uJ s_23 a1 1 j_25) fun s_26 =>
  if zh_oo s_26 a0 2 then
  zk_b (zf_Reader_readInteger n s_26 a0 i_12) fun j_30 s_28 =>
  if zh_oo s_28 a1 0 then
  zk_l (zh_uJ s_28 a1 2 j_30) fun s_31 =>
  if zh_oo s_31 a0 2 then
  zk_b (zf_Reader_readName n s_31 a0 (19 : Int32) i_12) fun j_35 s_33 =>
  if zh_oo s_33 a1 0 then
  zk_l (zh_uJ s_33 a1 7 j_35) fun s_36 =>
  if zh_oo s_36 a0 2 then
  zk_b (zf_Reader_readInteger n s_36 a0 i_12) fun j_40 s_38 =>
  if zh_oo s_38 a1 0 then
  zk_l (zh_uJ s_38 a1 8 j_40) fun s_41 =>
  if zh_oo s_41 a0 2 then
  zk_b (zf_Reader_readInteger n s_41 a0 i_12) fun j_45 s_43 =>
  if zh_oo s_43 a1 0 then
  zk_l (zh_uJ s_43 a1 9 j_45) fun s_46 =>
  if zh_oo s_46 a0 2 then
  zk_p (zf_Reader_isNext n s_46 a0 (48 : Int32) i_12) fun i_49 =>
  if i_49 = 0 then
    zb_Reader_readCertificate_124 n s_46 a0 a1 i_8 i_10 i_12
  else
    zk_p (zf_Reader_readExtensions n s_46 a0 a1 i_12) fun s_50 =>
    zb_Reader_readCertificate_124 n s_50 a0 a1 i_8 i_10 i_12
  else none
  else none
  else none
  else none
  else none
  else none
  else none
  else none
  else none
  else none
  else none
  else none
  else none
  else none
  else none
  else none
  else none
  else none
  else none
def zf_Signed_noteSigner_R (n : Nat) (s0 : zh_S) (a0 : Nat) (i1 : Int32) (a2 : Nat) : Option zh_S :=
  if zh_oo s0 a0 3 then
  if zh_oo s0 a2 0 then
  if (lg_cmp (zh_J s0 a0 0) (zh_J s0 a2 7)) = 0 then
    zk_p (zf_Numbers_isGood n (zh_J s0 a0 3) (zh_J s0 a2 8) (zh_J s0 a2 9) (zh_I s0 a0 4)) fun i_3 =>
    if i_3 = 0 then
      some s0
    else
      zk_l (zh_uI s0 a0 5 ((zh_I s0 a0 5) ||| ((1 : Int32) <<< (i1 &&& 31)))) fun s_4 =>
      some s_4
  else
    some s0
  else none
  else none
def zf_Signed_noteSigner_C (n : Nat) (s0 : zh_S) (a0 : Nat) (i1 : Int32) (a2 : Nat) : Option zh_S :=
  if zh_oo s0 a0 0 then
  if zh_oo s0 a2 0 then
  if (lg_cmp (zh_J s0 a0 0) (zh_J s0 a2 7)) = 0 then
    zk_p (zf_Numbers_isGood n (zh_J s0 a0 3) (zh_J s0 a2 8) (zh_J s0 a2 9) (zh_I s0 a0 4)) fun i_3 =>
    if i_3 = 0 then
      some s0
    else
      zk_l (zh_uI s0 a0 5 ((zh_I s0 a0 5) ||| ((1 : Int32) <<< (i1 &&& 31)))) fun s_4 =>
      some s_4
  else
    some s0
  else none
  else none
def zl_Shelf_keepCertificate_60 (n : Nat) : Nat → zh_S → Nat → Int32 → Nat → Int32 → Option (Int32 × zh_S)
  | 0, _, _, _, _, _ => none
  | k + 1, s0, a0, i2, a3, i4 =>
    if zh_oo s0 a0 5 then
    if (zh_I s0 a0 3) ≤ i4 then
      zk_l (zh_uI s0 a0 2 ((zh_I s0 a0 2) + (1 : Int32))) fun s_2 =>
      some (i2, s_2)
    else
      zk_p (zh_R s0 a0 1) fun a_3 =>
      if zh_oa s0 a_3 4 i4 then
      zk_p (zh_R s0 a_3 (i4.toNatClampNeg)) fun a_6 =>
      if zh_oo s0 a_6 3 then
      zk_p (zf_Signed_noteSigner_R n s0 a_6 i2 a3) fun s_8 =>
      zk_l (i4 + (1 : Int32)) fun i_10 =>
      zl_Shelf_keepCertificate_60 n k s_8 a0 i2 a3 i_10
      else none
      else none
    else none
def zl_Shelf_keepCertificate_20 (n : Nat) : Nat → zh_S → Nat → Int32 → Nat → Int32 → Option (Int32 × zh_S)
  | 0, _, _, _, _, _ => none
  | k + 1, s0, a0, i2, a3, i4 =>
    if i2 ≤ i4 then
      zl_Shelf_keepCertificate_60 n n s0 a0 i2 a3 (0 : Int32)
    else
      if zh_oo s0 a0 5 then
      zk_p (zh_R s0 a0 0) fun a_2 =>
      if zh_oa s0 a_2 3 i4 then
      zk_p (zh_R s0 a_2 (i4.toNatClampNeg)) fun a_5 =>
      if zh_oo s0 a3 0 then
      zk_p (zf_Signed_noteSigner_C n s0 a3 i4 a_5) fun s_7 =>
      if zh_oo s_7 a0 5 then
      zk_p (zh_R s_7 a0 0) fun a_10 =>
      if zh_oa s_7 a_10 3 i4 then
      zk_p (zh_R s_7 a_10 (i4.toNatClampNeg)) fun a_13 =>
      if zh_oo s_7 a_13 0 then
      zk_p (zf_Signed_noteSigner_C n s_7 a_13 i2 a3) fun s_15 =>
      zk_l (i4 + (1 : Int32)) fun i_17 =>
      zl_Shelf_keepCertificate_20 n k s_15 a0 i2 a3 i_17
      else none
      else none
      else none
      else none
      else none
      else none
def zf_Shelf_keepCertificate (n : Nat) (s0 : zh_S) (a0 : Nat) (i1 : Int32) : Option (Int32 × zh_S) :=
  if zh_oo s0 a0 5 then
  zk_l ((zh_I s0 a0 2)) fun i_2 =>
  zk_p (zh_R s0 a0 0) fun a_3 =>
  if zh_oa s0 a_3 3 i_2 then
  zk_p (zh_R s0 a_3 (i_2.toNatClampNeg)) fun a_6 =>
  if zh_oo s0 a_6 0 then
  if i1 = 0 ∨ i1 = 1 then
  zk_l (zh_uI s0 a_6 18 i1) fun s_8 =>
  zl_Shelf_keepCertificate_20 n n s_8 a0 i_2 a_6 (0 : Int32)
  else none
  else none
  else none
  else none
def zf_Shelf_nextList (n : Nat) (s0 : zh_S) (a0 : Nat) : Option Nat :=
  if zh_oo s0 a0 5 then
  zk_p (zh_R s0 a0 1) fun a_2 =>
  if zh_oa s0 a_2 4 (zh_I s0 a0 3) then
  zk_p (zh_R s0 a_2 ((zh_I s0 a0 3).toNatClampNeg)) fun a_5 =>
  some a_5
  else none
  else none
def zf_Reader_readSignature_R (n : Nat) (s0 : zh_S) (a0 : Nat) (a1 : Nat) (i2 : Int32) (i3 : Int32) : Option zh_S :=
  if zh_oo s0 a0 2 then
  if (zh_I s0 a0 2) = 0 then
    zk_p (zh_R s0 a0 0) fun a_2 =>
    if zh_oo s0 a_2 1 then
    zk_p (zf_Draft_hash n s0 a_2 i2 (zh_I s0 a0 1)) fun i_5 =>
    if zh_oo s0 a1 3 then
    zk_l (zh_uI s0 a1 4 i_5) fun s_6 =>
    zk_b (zf_Reader_readInteger n s_6 a0 i3) fun j_9 s_8 =>
    if zh_oo s_8 a1 3 then
    zk_l (zh_uJ s_8 a1 3 j_9) fun s_10 =>
    if zh_oo s_10 a0 2 then
    zk_p (zf_Reader_close n s_10 a0 i3) fun s_12 =>
    if zh_oo s_12 a0 2 then
    zk_p (zh_R s_12 a0 0) fun a_15 =>
    if zh_oo s_12 a_15 1 then
    zk_p (zf_Reader_close n s_12 a0 (zh_I s_12 a_15 1)) fun s_18 =>
    some s_18
    else none
    else none
    else none
    else none
    else none
    else none
  else
    some s0
  else none
def zb_Reader_readList_153 (n : Nat) (s0 : zh_S) (a0 : Nat) (a1 : Nat) (i2 : Int32) (i3 : Int32) (i4 : Int32) (i5 : Int32) : Option (Int32 × zh_S) :=
  if zh_oo s0 a0 2 then
  zk_p (zf_Reader_close n s0 a0 i5) fun s_1 =>
  if zh_oo s_1 a0 2 then
  zk_p (zf_Reader_close n s_1 a0 i4) fun s_3 =>
  if zh_oo s_3 a0 2 then
  zk_p (zf_Reader_readSignature_R n s_3 a0 a1 i3 i2) fun s_5 =>
  if zh_oo s_5 a0 2 then
  some ((zh_I s_5 a0 2), s_5)
  else none
  else none
  else none
  else none
def zl_Reader_readList_78 (n : Nat) : Nat → zh_S → Nat → Nat → Int32 → Int32 → Int32 → Int32 → Int32 → Option (Int32 × zh_S)
  | 0, _, _, _, _, _, _, _, _ => none
  | k + 1, s0, a0, a1, i2, i3, i4, i5, i6 =>
    if (4 : Int32) ≤ i6 then
      zb_Reader_readList_153 n s0 a0 a1 i2 i3 i4 i5
    else
      if zh_oo s0 a0 2 then
      zk_p (zf_Reader_isNext n s0 a0 (48 : Int32) i5) fun i_2 =>
      if i_2 = 0 then
        zb_Reader_readList_153 n s0 a0 a1 i2 i3 i4 i5
      else
        zk_b (zf_Reader_open n s0 a0 (48 : Int32) i5) fun i_4 s_3 =>
        if zh_oo s_3 a1 3 then
        zk_p (zh_R s_3 a1 6) fun a_6 =>
        if zh_oo s_3 a0 2 then
        zk_b (zf_Reader_readInteger n s_3 a0 i_4) fun j_10 s_8 =>
        if zh_oa s_8 a_6 1 i6 then
        zk_l (zh_uJ s_8 a_6 (i6.toNatClampNeg) j_10) fun s_11 =>
        if zh_oo s_11 a1 3 then
        zk_p (zh_R s_11 a1 7) fun a_14 =>
        if zh_oo s_11 a0 2 then
        zk_b (zf_Reader_readInteger n s_11 a0 i_4) fun j_18 s_16 =>
        if zh_oa s_16 a_14 1 i6 then
        zk_l (zh_uJ s_16 a_14 (i6.toNatClampNeg) j_18) fun s_19 =>
        if zh_oo s_19 a1 3 then
        zk_l (zh_uI s_19 a1 8 ((zh_I s_19 a1 8) + (1 : Int32))) fun s_22 =>
        if zh_oo s_22 a0 2 then
        zk_p (zf_Reader_close n s_22 a0 i_4) fun s_23 =>
        zk_l (i6 + (1 : Int32)) fun i_25 =>
        zl_Reader_readList_78 n k s_23 a0 a1 i2 i3 i4 i5 i_25
        else none
        else none
        else none
        else none
        else none
        else none
        else none
        else none
      else none
def zf_Reader_readList (n : Nat) (s0 : zh_S) (a0 : Nat) (a1 : Nat) : Option (Int32 × zh_S) :=
  if zh_oo s0 a1 3 then
  zk_l (zh_uI s0 a1 8 (0 : Int32)) fun s_1 =>
  if zh_oo s_1 a0 2 then
  zk_p (zh_R s_1 a0 0) fun a_4 =>
  if zh_oo s_1 a_4 1 then
  zk_b (zf_Reader_open n s_1 a0 (48 : Int32) (zh_I s_1 a_4 1)) fun i_8 s_7 =>
  if zh_oo s_7 a0 2 then
  zk_l ((zh_I s_7 a0 1)) fun i_10 =>
  zk_b (zf_Reader_open n s_7 a0 (48 : Int32) i_8) fun i_12 s_11 =>
  if zh_oo s_11 a0 2 then
  zk_b (zf_Reader_readName n s_11 a0 (19 : Int32) i_12) fun j_15 s_13 =>
  if zh_oo s_13 a1 3 then
  zk_l (zh_uJ s_13 a1 0 j_15) fun s_16 =>
  if zh_oo s_16 a0 2 then
  zk_b (zf_Reader_readInteger n s_16 a0 i_12) fun j_20 s_18 =>
  if zh_oo s_18 a1 3 then
  zk_l (zh_uJ s_18 a1 1 j_20) fun s_21 =>
  if zh_oo s_21 a0 2 then
  zk_b (zf_Reader_readInteger n s_21 a0 i_12) fun j_25 s_23 =>
  if zh_oo s_23 a1 3 then
  zk_l (zh_uJ s_23 a1 2 j_25) fun s_26 =>
  if zh_oo s_26 a0 2 then
  zk_b (zf_Reader_open n s_26 a0 (48 : Int32) i_12) fun i_30 s_28 =>
  zl_Reader_readList_78 n n s_28 a0 a1 i_8 i_10 i_12 i_30 (0 : Int32)
  else none
  else none
  else none
  else none
  else none
  else none
  else none
  else none
  else none
  else none
  else none
def zl_Shelf_keepList_7 (n : Nat) : Nat → zh_S → Nat → Int32 → Int32 → Option (Int32 × zh_S)
  | 0, _, _, _, _ => none
  | k + 1, s0, a0, i1, i2 =>
    if zh_oo s0 a0 5 then
    if (zh_I s0 a0 2) ≤ i2 then
      zk_l (zh_uI s0 a0 3 ((zh_I s0 a0 3) + (1 : Int32))) fun s_2 =>
      some (i1, s_2)
    else
      zk_p (zh_R s0 a0 1) fun a_3 =>
      if zh_oa s0 a_3 4 i1 then
      zk_p (zh_R s0 a_3 (i1.toNatClampNeg)) fun a_6 =>
      zk_p (zh_R s0 a0 0) fun a_8 =>
      if zh_oa s0 a_8 3 i2 then
      zk_p (zh_R s0 a_8 (i2.toNatClampNeg)) fun a_11 =>
      if zh_oo s0 a_6 3 then
      zk_p (zf_Signed_noteSigner_R n s0 a_6 i2 a_11) fun s_13 =>
      zk_l (i2 + (1 : Int32)) fun i_15 =>
      zl_Shelf_keepList_7 n k s_13 a0 i1 i_15
      else none
      else none
      else none
    else none
def zf_Shelf_keepList (n : Nat) (s0 : zh_S) (a0 : Nat) : Option (Int32 × zh_S) :=
  if zh_oo s0 a0 5 then
  zk_l ((zh_I s0 a0 3)) fun i_2 =>
  zl_Shelf_keepList_7 n n s0 a0 i_2 (0 : Int32)
  else none
def zb_V_store_126 (n : Nat) (s0 : zh_S) (at0 : Nat) (it1 : Int32) : Option (Int32 × zh_S) :=
  if zh_oo s0 at0 5 then
  zk_b (zf_Shelf_keepCertificate n s0 at0 it1) fun i_3 s_1 =>
  some (i_3, s_1)
  else none
def zb_V_store_70 (n : Nat) (s0 : zh_S) (a0 : Nat) (i1 : Int32) (it0 : Int32) : Option (Int32 × zh_S) :=
  if it0 = 0 then
    some ((-1 : Int32), s0)
  else
    if zh_oo s0 a0 7 then
    zk_p (zh_R s0 a0 2) fun a_2 =>
    if zh_oo s0 a_2 5 then
    if (12 : Int32) ≤ (zh_I s0 a_2 2) then
      some ((-1 : Int32), s0)
    else
      zk_l (zh_N s0) fun a_6 =>
      zk_l (zh_new s0 (2, 2) 3) fun s_5 =>
      if zh_oo s_5 a0 7 then
      zk_p (zh_R s_5 a0 0) fun a_8 =>
      zk_p (zf_Reader_init n s_5 a_6 a_8) fun s_10 =>
      if zh_oo s_10 a0 7 then
      zk_p (zh_R s_10 a0 2) fun a_12 =>
      if zh_oo s_10 a_12 5 then
      zk_p (zf_Shelf_nextCertificate n s_10 a_12) fun a_15 =>
      if zh_oo s_10 a_6 2 then
      zk_b (zf_Reader_readCertificate n s_10 a_6 a_15) fun i_18 s_16 =>
      if i_18 = 0 then
        if zh_oo s_16 a0 7 then
        zk_p (zh_R s_16 a0 2) fun a_20 =>
        if i1 = 0 then
          zb_V_store_126 n s_16 a_20 (1 : Int32)
        else
          zb_V_store_126 n s_16 a_20 (0 : Int32)
        else none
      else
        some ((-2 : Int32), s_16)
      else none
      else none
      else none
      else none
    else none
    else none
def zb_V_store_65 (n : Nat) (s0 : zh_S) (a0 : Nat) (i1 : Int32) : Option (Int32 × zh_S) :=
  zb_V_store_70 n s0 a0 i1 (1 : Int32)
def zb_V_store_56 (n : Nat) (s0 : zh_S) (a0 : Nat) (i1 : Int32) : Option (Int32 × zh_S) :=
  if i1 = 0 then
    zb_V_store_65 n s0 a0 i1
  else
    if i1 = (1 : Int32) then
      zb_V_store_65 n s0 a0 i1
    else
      zb_V_store_70 n s0 a0 i1 (0 : Int32)
def zf_V_store (n : Nat) (s0 : zh_S) (a0 : Nat) (i1 : Int32) : Option (Int32 × zh_S) :=
  if i1 = (2 : Int32) then
    if zh_oo s0 a0 7 then
    zk_p (zh_R s0 a0 2) fun a_2 =>
    if zh_oo s0 a_2 5 then
    if (6 : Int32) ≤ (zh_I s0 a_2 3) then
      zb_V_store_56 n s0 a0 i1
    else
      zk_l (zh_N s0) fun a_6 =>
      zk_l (zh_new s0 (2, 2) 3) fun s_5 =>
      if zh_oo s_5 a0 7 then
      zk_p (zh_R s_5 a0 0) fun a_8 =>
      zk_p (zf_Reader_init n s_5 a_6 a_8) fun s_10 =>
      if zh_oo s_10 a0 7 then
      zk_p (zh_R s_10 a0 2) fun a_12 =>
      if zh_oo s_10 a_12 5 then
      zk_p (zf_Shelf_nextList n s_10 a_12) fun a_15 =>
      if zh_oo s_10 a_6 2 then
      zk_b (zf_Reader_readList n s_10 a_6 a_15) fun i_18 s_16 =>
      if i_18 = 0 then
        if zh_oo s_16 a0 7 then
        zk_p (zh_R s_16 a0 2) fun a_20 =>
        if zh_oo s_16 a_20 5 then
        zk_b (zf_Shelf_keepList n s_16 a_20) fun i_24 s_22 =>
        some (i_24, s_22)
        else none
        else none
      else
        some ((-2 : Int32), s_16)
      else none
      else none
      else none
      else none
    else none
    else none
  else
    zb_V_store_56 n s0 a0 i1
def zb_M_fails_21 (n : Nat) (s0 : zh_S) (at0 : Nat) (it1 : Int32) : Option zh_S :=
  if zh_oo s0 at0 8 then
  zk_l (zh_uI s0 at0 10 it1) fun s_1 =>
  some s_1
  else none
def zf_M_fails (n : Nat) (s0 : zh_S) (a0 : Nat) (i1 : Int32) (i2 : Int32) : Option zh_S :=
  if zh_oo s0 a0 8 then
  if (zh_I s0 a0 10) = 0 then
    zb_M_fails_21 n s0 a0 (i1 + ((16 : Int32) * i2))
  else
    zb_M_fails_21 n s0 a0 (zh_I s0 a0 10)
  else none
def zb_M_head_272 (n : Nat) (s0 : zh_S) (a0 : Nat) (i2 : Int32) (i3 : Int32) (i4 : Int32) (it0 : Int32) (it1 : Int32) : Option (Int32 × zh_S) :=
  zk_l ((it0 + it1)) fun i_1 =>
  if (i_1 + i4) ≤ i2 then
    if zh_oo s0 a0 8 then
    zk_l (zh_uI s0 a0 9 i_1) fun s_2 =>
    some ((i_1 + i4), s_2)
    else none
  else
    if zh_oo s0 a0 8 then
    zk_p (zf_M_fails n s0 a0 (1 : Int32) i3) fun s_4 =>
    some (i2, s_4)
    else none
def zb_M_head_244 (n : Nat) (s0 : zh_S) (a0 : Nat) (i2 : Int32) (i3 : Int32) (it0 : Int32) : Option (Int32 × zh_S) :=
  if zh_oo s0 a0 8 then
  zk_p (zh_R s0 a0 0) fun a_2 =>
  if zh_oa s0 a_2 0 ((zh_I s0 a0 9) + (1 : Int32)) then
  if (zh_I s0 a_2 (((zh_I s0 a0 9) + (1 : Int32)).toNatClampNeg)) = (129 : Int32) then
    zb_M_head_272 n s0 a0 i2 i3 it0 (zh_I s0 a0 9) (3 : Int32)
  else
    zb_M_head_272 n s0 a0 i2 i3 it0 (zh_I s0 a0 9) (2 : Int32)
  else none
  else none
def zb_M_head_193 (n : Nat) (s0 : zh_S) (a0 : Nat) (i2 : Int32) (i3 : Int32) : Option (Int32 × zh_S) :=
  if zh_oo s0 a0 8 then
  if (zh_I s0 a0 10) = 0 then
    zk_p (zh_R s0 a0 0) fun a_2 =>
    if zh_oa s0 a_2 0 ((zh_I s0 a0 9) + (1 : Int32)) then
    if (zh_I s0 a_2 (((zh_I s0 a0 9) + (1 : Int32)).toNatClampNeg)) = (129 : Int32) then
      zk_p (zh_R s0 a0 0) fun a_8 =>
      if zh_oa s0 a_8 0 ((zh_I s0 a0 9) + (2 : Int32)) then
      zb_M_head_244 n s0 a0 i2 i3 (zh_I s0 a_8 (((zh_I s0 a0 9) + (2 : Int32)).toNatClampNeg))
      else none
    else
      zk_p (zh_R s0 a0 0) fun a_5 =>
      if zh_oa s0 a_5 0 ((zh_I s0 a0 9) + (1 : Int32)) then
      zb_M_head_244 n s0 a0 i2 i3 (zh_I s0 a_5 (((zh_I s0 a0 9) + (1 : Int32)).toNatClampNeg))
      else none
    else none
  else
    some (i2, s0)
  else none
def zb_M_head_153 (n : Nat) (s0 : zh_S) (a0 : Nat) (i2 : Int32) (i3 : Int32) : Option (Int32 × zh_S) :=
  if zh_oo s0 a0 8 then
  zk_p (zh_R s0 a0 0) fun a_2 =>
  if zh_oa s0 a_2 0 ((zh_I s0 a0 9) + (1 : Int32)) then
  if (zh_I s0 a_2 (((zh_I s0 a0 9) + (1 : Int32)).toNatClampNeg)) = (129 : Int32) then
    zk_p (zh_R s0 a0 0) fun a_5 =>
    if zh_oa s0 a_5 0 ((zh_I s0 a0 9) + (2 : Int32)) then
    if (128 : Int32) ≤ (zh_I s0 a_5 (((zh_I s0 a0 9) + (2 : Int32)).toNatClampNeg)) then
      zb_M_head_193 n s0 a0 i2 i3
    else
      zk_p (zf_M_fails n s0 a0 (3 : Int32) i3) fun s_8 =>
      zb_M_head_193 n s_8 a0 i2 i3
    else none
  else
    zb_M_head_193 n s0 a0 i2 i3
  else none
  else none
def zb_M_head_108 (n : Nat) (s0 : zh_S) (a0 : Nat) (i2 : Int32) (i3 : Int32) : Option (Int32 × zh_S) :=
  if zh_oo s0 a0 8 then
  zk_p (zf_M_fails n s0 a0 (3 : Int32) i3) fun s_1 =>
  zb_M_head_193 n s_1 a0 i2 i3
  else none
def zf_M_head (n : Nat) (s0 : zh_S) (a0 : Nat) (i1 : Int32) (i2 : Int32) : Option (Int32 × zh_S) :=
  if zh_oo s0 a0 8 then
  if (zh_I s0 a0 10) = 0 then
    zk_l ((zh_I s0 a0 9)) fun i_2 =>
    if (zh_I s0 a0 9) < i2 then
      zk_p (zh_R s0 a0 0) fun a_3 =>
      if zh_oa s0 a_3 0 (zh_I s0 a0 9) then
      if (zh_I s0 a_3 ((zh_I s0 a0 9).toNatClampNeg)) = i1 then
        if ((zh_I s0 a0 9) + (1 : Int32)) < i2 then
          zk_p (zh_R s0 a0 0) fun a_6 =>
          if zh_oa s0 a_6 0 ((zh_I s0 a0 9) + (1 : Int32)) then
          if (zh_I s0 a_6 (((zh_I s0 a0 9) + (1 : Int32)).toNatClampNeg)) = (128 : Int32) then
            zb_M_head_108 n s0 a0 i2 i_2
          else
            zk_p (zh_R s0 a0 0) fun a_9 =>
            if zh_oa s0 a_9 0 ((zh_I s0 a0 9) + (1 : Int32)) then
            if (zh_I s0 a_9 (((zh_I s0 a0 9) + (1 : Int32)).toNatClampNeg)) ≤ (129 : Int32) then
              zk_p (zh_R s0 a0 0) fun a_12 =>
              if zh_oa s0 a_12 0 ((zh_I s0 a0 9) + (1 : Int32)) then
              if (zh_I s0 a_12 (((zh_I s0 a0 9) + (1 : Int32)).toNatClampNeg)) = (129 : Int32) then
                if ((zh_I s0 a0 9) + (2 : Int32)) < i2 then
                  zb_M_head_153 n s0 a0 i2 i_2
                else
                  zk_p (zf_M_fails n s0 a0 (1 : Int32) i_2) fun s_15 =>
                  zb_M_head_193 n s_15 a0 i2 i_2
              else
                zb_M_head_153 n s0 a0 i2 i_2
              else none
            else
              zb_M_head_108 n s0 a0 i2 i_2
            else none
          else none
        else
          zk_p (zf_M_fails n s0 a0 (1 : Int32) i_2) fun s_16 =>
          zb_M_head_193 n s_16 a0 i2 i_2
      else
        zk_p (zf_M_fails n s0 a0 (2 : Int32) i_2) fun s_17 =>
        zb_M_head_193 n s_17 a0 i2 i_2
      else none
    else
      zk_p (zf_M_fails n s0 a0 (1 : Int32) (zh_I s0 a0 9)) fun s_18 =>
      some (i2, s_18)
  else
    some (i2, s0)
  else none
def zb_M_isName_80 (n : Nat) (r34 : Int64 → Int32 → Int64 → Int32 → Option Int32) (j0 : Int64) (i2 : Int32) (i5 : Int32) (j6 : Int64) : Option Int32 :=
  zk_l (i5 + (1 : Int32)) fun i_1 =>
  r34 j0 i2 j6 i_1
def zl_M_isName_34 (n : Nat) : Nat → Int64 → Int32 → Int64 → Int32 → Option Int32
  | 0, _, _, _, _ => none
  | k + 1, j0, i2, j3, i5 =>
    if i2 ≤ i5 then
      if (lg_cmp j3 (27 : Int64)) = 0 then
        some (0 : Int32)
      else
        some (1 : Int32)
    else
      zk_l (((j0 >>> (((5 : Int32) * i5).toInt64 &&& 63)) &&& (31 : Int64))) fun j_1 =>
      if 0 < (lg_cmp j_1 (27 : Int64)) then
        some (0 : Int32)
      else
        if (lg_cmp j_1 (27 : Int64)) = 0 then
          if (lg_cmp j3 (27 : Int64)) = 0 then
            some (0 : Int32)
          else
            zb_M_isName_80 n (zl_M_isName_34 n k) j0 i2 i5 j_1
        else
          zb_M_isName_80 n (zl_M_isName_34 n k) j0 i2 i5 j_1
def zf_M_isName (n : Nat) (j0 : Int64) : Option Int32 :=
  zk_p (zf_M_letters n j0) fun i_1 =>
  if i_1 = 0 then
    some (0 : Int32)
  else
    if (lg_cmp j0 (0 : Int64)) < 0 then
      some (0 : Int32)
    else
      if (lg_cmp (j0 >>> (((5 : Int32) * i_1).toInt64 &&& 63)) (0 : Int64)) = 0 then
        zl_M_isName_34 n n j0 i_1 (27 : Int64) (0 : Int32)
      else
        some (0 : Int32)
def zb_M_title_164 (n : Nat) (s0 : zh_S) (a0 : Nat) (i4 : Int32) (j6 : Int64) : Option (Int64 × zh_S) :=
  if zh_oo s0 a0 8 then
  zk_l (zh_uI s0 a0 9 i4) fun s_1 =>
  some (j6, s_1)
  else none
def zb_M_title_158 (n : Nat) (s0 : zh_S) (a0 : Nat) (i3 : Int32) (i4 : Int32) (j6 : Int64) : Option (Int64 × zh_S) :=
  if zh_oo s0 a0 8 then
  zk_p (zf_M_fails n s0 a0 (4 : Int32) i3) fun s_1 =>
  zb_M_title_164 n s_1 a0 i4 j6
  else none
def zb_M_title_145 (n : Nat) (s0 : zh_S) (a0 : Nat) (i3 : Int32) (i4 : Int32) (i5 : Int32) (j6 : Int64) : Option (Int64 × zh_S) :=
  if i5 = 0 then
    zb_M_title_158 n s0 a0 i3 i4 j6
  else
    zk_p (zf_M_isName n j6) fun i_1 =>
    if i_1 = 0 then
      zb_M_title_158 n s0 a0 i3 i4 j6
    else
      zb_M_title_164 n s0 a0 i4 j6
def zb_M_title_119 (n : Nat) (r48 : zh_S → Nat → Int32 → Int32 → Int32 → Int64 → Int32 → Option (Int64 × zh_S)) (s0 : zh_S) (a0 : Nat) (i3 : Int32) (i4 : Int32) (j6 : Int64) (i8 : Int32) (i9 : Int32) (it0 : Int32) : Option (Int64 × zh_S) :=
  if zh_oo s0 a0 8 then
  zk_l ((j6 ||| (i9.toInt64 <<< (((5 : Int32) * (i8 - (zh_I s0 a0 9))).toInt64 &&& 63)))) fun j_2 =>
  zk_l (i8 + (1 : Int32)) fun i_3 =>
  r48 s0 a0 i3 i4 it0 j_2 i_3
  else none
def zb_M_title_118 (n : Nat) (r48 : zh_S → Nat → Int32 → Int32 → Int32 → Int64 → Int32 → Option (Int64 × zh_S)) (s0 : zh_S) (a0 : Nat) (i3 : Int32) (i4 : Int32) (j6 : Int64) (i8 : Int32) (i9 : Int32) : Option (Int64 × zh_S) :=
  zb_M_title_119 n r48 s0 a0 i3 i4 j6 i8 i9 (0 : Int32)
def zb_M_title_87 (n : Nat) (r48 : zh_S → Nat → Int32 → Int32 → Int32 → Int64 → Int32 → Option (Int64 × zh_S)) (s0 : zh_S) (a0 : Nat) (i3 : Int32) (i4 : Int32) (j6 : Int64) (i8 : Int32) (it0 : Int32) : Option (Int64 × zh_S) :=
  if it0 < (1 : Int32) then
    zb_M_title_118 n r48 s0 a0 i3 i4 j6 i8 it0
  else
    if (27 : Int32) < it0 then
      zb_M_title_118 n r48 s0 a0 i3 i4 j6 i8 it0
    else
      if zh_oo s0 a0 8 then
      zk_p (zh_R s0 a0 0) fun a_2 =>
      if zh_oa s0 a_2 0 i8 then
      if (zh_I s0 a_2 (i8.toNatClampNeg)) = (123 : Int32) then
        zb_M_title_118 n r48 s0 a0 i3 i4 j6 i8 it0
      else
        zb_M_title_119 n r48 s0 a0 i3 i4 j6 i8 it0 (1 : Int32)
      else none
      else none
def zl_M_title_48 (n : Nat) : Nat → zh_S → Nat → Int32 → Int32 → Int32 → Int64 → Int32 → Option (Int64 × zh_S)
  | 0, _, _, _, _, _, _, _ => none
  | k + 1, s0, a0, i3, i4, i5, j6, i8 =>
    if i4 ≤ i8 then
      zb_M_title_145 n s0 a0 i3 i4 i5 j6
    else
      if i5 = 0 then
        zb_M_title_145 n s0 a0 i3 i4 i5 j6
      else
        if zh_oo s0 a0 8 then
        zk_p (zh_R s0 a0 0) fun a_2 =>
        if zh_oa s0 a_2 0 i8 then
        if (zh_I s0 a_2 (i8.toNatClampNeg)) = (46 : Int32) then
          zb_M_title_87 n (zl_M_title_48 n k) s0 a0 i3 i4 j6 i8 (27 : Int32)
        else
          zk_p (zh_R s0 a0 0) fun a_5 =>
          if zh_oa s0 a_5 0 i8 then
          zb_M_title_87 n (zl_M_title_48 n k) s0 a0 i3 i4 j6 i8 ((zh_I s0 a_5 (i8.toNatClampNeg)) - (96 : Int32))
          else none
        else none
        else none
def zf_M_title (n : Nat) (s0 : zh_S) (a0 : Nat) (i1 : Int32) (i2 : Int32) : Option (Int64 × zh_S) :=
  if zh_oo s0 a0 8 then
  zk_l ((zh_I s0 a0 9)) fun i_2 =>
  zk_b (zf_M_head n s0 a0 i1 i2) fun i_4 s_3 =>
  if zh_oo s_3 a0 8 then
  if (zh_I s_3 a0 10) = 0 then
    zk_p (zf_M_in n ((i_4 - (zh_I s_3 a0 9)).toInt64) (1 : Int64) (8 : Int64)) fun i_6 =>
    zk_l ((zh_I s_3 a0 9)) fun i_7 =>
    zl_M_title_48 n n s_3 a0 i_2 i_4 i_6 (0 : Int64) i_7
  else
    some ((0 : Int64), s_3)
  else none
  else none
def zb_M_number_151 (n : Nat) (s0 : zh_S) (a0 : Nat) (i3 : Int32) (j6 : Int64) : Option (Int64 × zh_S) :=
  if zh_oo s0 a0 8 then
  zk_l (zh_uI s0 a0 9 i3) fun s_1 =>
  some (j6, s_1)
  else none
def zl_M_number_118 (n : Nat) : Nat → zh_S → Nat → Int32 → Int32 → Int64 → Int32 → Option (Int64 × zh_S)
  | 0, _, _, _, _, _, _ => none
  | k + 1, s0, a0, i3, i5, j6, i8 =>
    if i3 ≤ i8 then
      zb_M_number_151 n s0 a0 i3 j6
    else
      if i5 = 0 then
        zb_M_number_151 n s0 a0 i3 j6
      else
        if zh_oo s0 a0 8 then
        zk_p (zh_R s0 a0 0) fun a_2 =>
        if zh_oa s0 a_2 0 i8 then
        zk_l (((j6 <<< ((8 : Int32).toInt64 &&& 63)) ||| (zh_I s0 a_2 (i8.toNatClampNeg)).toInt64)) fun j_5 =>
        zk_l (i8 + (1 : Int32)) fun i_6 =>
        zl_M_number_118 n k s0 a0 i3 i5 j_5 i_6
        else none
        else none
def zb_M_number_109 (n : Nat) (s0 : zh_S) (a0 : Nat) (i3 : Int32) (i5 : Int32) : Option (Int64 × zh_S) :=
  if zh_oo s0 a0 8 then
  zk_l ((zh_I s0 a0 9)) fun i_2 =>
  zl_M_number_118 n n s0 a0 i3 i5 (0 : Int64) i_2
  else none
def zb_M_number_96 (n : Nat) (s0 : zh_S) (a0 : Nat) (i2 : Int32) (i3 : Int32) (it0 : Int32) : Option (Int64 × zh_S) :=
  if it0 = 0 then
    if zh_oo s0 a0 8 then
    zk_p (zf_M_fails n s0 a0 (4 : Int32) i2) fun s_1 =>
    zb_M_number_109 n s_1 a0 i3 it0
    else none
  else
    zb_M_number_109 n s0 a0 i3 it0
def zb_M_number_95 (n : Nat) (s0 : zh_S) (a0 : Nat) (i2 : Int32) (i3 : Int32) : Option (Int64 × zh_S) :=
  zb_M_number_96 n s0 a0 i2 i3 (0 : Int32)
def zb_M_number_91 (n : Nat) (s0 : zh_S) (a0 : Nat) (i2 : Int32) (i3 : Int32) : Option (Int64 × zh_S) :=
  zb_M_number_96 n s0 a0 i2 i3 (1 : Int32)
def zf_M_number (n : Nat) (s0 : zh_S) (a0 : Nat) (i1 : Int32) : Option (Int64 × zh_S) :=
  if zh_oo s0 a0 8 then
  zk_l ((zh_I s0 a0 9)) fun i_2 =>
  zk_b (zf_M_head n s0 a0 (2 : Int32) i1) fun i_4 s_3 =>
  if zh_oo s_3 a0 8 then
  if (zh_I s_3 a0 10) = 0 then
    zk_l ((i_4 - (zh_I s_3 a0 9))) fun i_6 =>
    zk_p (zf_M_in n (i_6.toInt64) (1 : Int64) (8 : Int64)) fun i_7 =>
    if i_7 = 0 then
      zb_M_number_95 n s_3 a0 i_2 i_4
    else
      zk_p (zh_R s_3 a0 0) fun a_8 =>
      if zh_oa s_3 a_8 0 (zh_I s_3 a0 9) then
      if (128 : Int32) ≤ (zh_I s_3 a_8 ((zh_I s_3 a0 9).toNatClampNeg)) then
        zb_M_number_95 n s_3 a0 i_2 i_4
      else
        zk_p (zh_R s_3 a0 0) fun a_11 =>
        if zh_oa s_3 a_11 0 (zh_I s_3 a0 9) then
        if (zh_I s_3 a_11 ((zh_I s_3 a0 9).toNatClampNeg)) = 0 then
          if i_6 = (1 : Int32) then
            zb_M_number_91 n s_3 a0 i_2 i_4
          else
            zk_p (zh_R s_3 a0 0) fun a_14 =>
            if zh_oa s_3 a_14 0 ((zh_I s_3 a0 9) + (1 : Int32)) then
            if (zh_I s_3 a_14 (((zh_I s_3 a0 9) + (1 : Int32)).toNatClampNeg)) ≤ (127 : Int32) then
              zb_M_number_95 n s_3 a0 i_2 i_4
            else
              zb_M_number_91 n s_3 a0 i_2 i_4
            else none
        else
          zb_M_number_91 n s_3 a0 i_2 i_4
        else none
      else none
  else
    some ((0 : Int64), s_3)
  else none
  else none
def zf_M_done (n : Nat) (s0 : zh_S) (a0 : Nat) (i1 : Int32) : Option zh_S :=
  if zh_oo s0 a0 8 then
  if (zh_I s0 a0 10) = 0 then
    if i1 ≤ (zh_I s0 a0 9) then
      some s0
    else
      zk_p (zf_M_fails n s0 a0 (5 : Int32) (zh_I s0 a0 9)) fun s_2 =>
      some s_2
  else
    some s0
  else none
def zl_M_hash_6 (n : Nat) : Nat → zh_S → Nat → Int32 → Int32 → Int32 → Option Int32
  | 0, _, _, _, _, _ => none
  | k + 1, s0, a0, i2, i3, i4 =>
    if i2 ≤ i4 then
      some (i3 ^^^ (zu_i i3 (15 : Int32)))
    else
      if zh_oo s0 a0 8 then
      zk_p (zh_R s0 a0 0) fun a_2 =>
      if zh_oa s0 a_2 0 i4 then
      zk_l (((i3 ^^^ (zh_I s0 a_2 (i4.toNatClampNeg))) * (16777619 : Int32))) fun i_5 =>
      zk_l (i4 + (1 : Int32)) fun i_6 =>
      zl_M_hash_6 n k s0 a0 i2 i_5 i_6
      else none
      else none
def zf_M_hash (n : Nat) (s0 : zh_S) (a0 : Nat) (i1 : Int32) (i2 : Int32) : Option Int32 :=
  zl_M_hash_6 n n s0 a0 i2 (-2128831035 : Int32) i1
def zf_M_next (n : Nat) (s0 : zh_S) (a0 : Nat) (i1 : Int32) (i2 : Int32) : Option Int32 :=
  if zh_oo s0 a0 8 then
  if (zh_I s0 a0 10) = 0 then
    if i2 ≤ (zh_I s0 a0 9) then
      some (0 : Int32)
    else
      zk_p (zh_R s0 a0 0) fun a_2 =>
      if zh_oa s0 a_2 0 (zh_I s0 a0 9) then
      if (zh_I s0 a_2 ((zh_I s0 a0 9).toNatClampNeg)) = i1 then
        some (1 : Int32)
      else
        some (0 : Int32)
      else none
  else
    some (0 : Int32)
  else none
def zb_M_readList_183 (n : Nat) (s0 : zh_S) (a0 : Nat) (i1 : Int32) : Option zh_S :=
  if zh_oo s0 a0 8 then
  zk_p (zh_R s0 a0 11) fun a_2 =>
  zk_b (zf_M_number n s0 a0 i1) fun j_5 s_4 =>
  if zh_oa s_4 a_2 1 (7 : Int32) then
  zk_l (zh_uJ s_4 a_2 ((7 : Int32).toNatClampNeg) j_5) fun s_6 =>
  if zh_oo s_6 a0 8 then
  zk_p (zf_M_done n s_6 a0 i1) fun s_8 =>
  if zh_oo s_8 a0 8 then
  zk_p (zf_M_done n s_8 a0 (zh_I s_8 a0 1)) fun s_11 =>
  some s_11
  else none
  else none
  else none
  else none
def zb_M_readList_151 (n : Nat) (s0 : zh_S) (a0 : Nat) (i1 : Int32) (i2 : Int32) (i3 : Int32) (i4 : Int32) : Option zh_S :=
  if zh_oo s0 a0 8 then
  zk_p (zf_M_done n s0 a0 i4) fun s_1 =>
  if zh_oo s_1 a0 8 then
  zk_p (zf_M_done n s_1 a0 i3) fun s_3 =>
  if zh_oo s_3 a0 8 then
  if (zh_I s_3 a0 10) = 0 then
    zk_p (zh_R s_3 a0 11) fun a_6 =>
    zk_p (zf_M_hash n s_3 a0 i2 i3) fun i_8 =>
    if zh_oa s_3 a_6 1 (8 : Int32) then
    zk_l (zh_uJ s_3 a_6 ((8 : Int32).toNatClampNeg) (i_8.toInt64)) fun s_9 =>
    zb_M_readList_183 n s_9 a0 i1
    else none
  else
    zb_M_readList_183 n s_3 a0 i1
  else none
  else none
  else none
def zl_M_readList_73 (n : Nat) : Nat → zh_S → Nat → Int32 → Int32 → Int32 → Int32 → Option zh_S
  | 0, _, _, _, _, _, _ => none
  | k + 1, s0, a0, i1, i2, i3, i4 =>
    if zh_oo s0 a0 8 then
    if (4 : Int32) ≤ (zh_I s0 a0 12) then
      zb_M_readList_151 n s0 a0 i1 i2 i3 i4
    else
      zk_p (zf_M_next n s0 a0 (48 : Int32) i4) fun i_2 =>
      if i_2 = 0 then
        zb_M_readList_151 n s0 a0 i1 i2 i3 i4
      else
        zk_b (zf_M_head n s0 a0 (48 : Int32) i4) fun i_4 s_3 =>
        if zh_oo s_3 a0 8 then
        zk_p (zh_R s_3 a0 13) fun a_6 =>
        zk_b (zf_M_number n s_3 a0 i_4) fun j_9 s_8 =>
        if zh_oa s_8 a_6 1 (zh_I s_3 a0 12) then
        zk_l (zh_uJ s_8 a_6 ((zh_I s_3 a0 12).toNatClampNeg) j_9) fun s_10 =>
        if zh_oo s_10 a0 8 then
        zk_p (zh_R s_10 a0 14) fun a_13 =>
        zk_b (zf_M_number n s_10 a0 i_4) fun j_16 s_15 =>
        if zh_oa s_15 a_13 1 (zh_I s_10 a0 12) then
        zk_l (zh_uJ s_15 a_13 ((zh_I s_10 a0 12).toNatClampNeg) j_16) fun s_17 =>
        if zh_oo s_17 a0 8 then
        zk_p (zf_M_done n s_17 a0 i_4) fun s_19 =>
        if zh_oo s_19 a0 8 then
        zk_l (zh_uI s_19 a0 12 ((zh_I s_19 a0 12) + (1 : Int32))) fun s_22 =>
        zl_M_readList_73 n k s_22 a0 i1 i2 i3 i4
        else none
        else none
        else none
        else none
        else none
        else none
    else none
def zf_M_readList (n : Nat) (s0 : zh_S) (a0 : Nat) : Option zh_S :=
  if zh_oo s0 a0 8 then
  zk_l (zh_uI s0 a0 12 (0 : Int32)) fun s_1 =>
  zk_b (zf_M_head n s_1 a0 (48 : Int32) (zh_I s_1 a0 1)) fun i_4 s_3 =>
  if zh_oo s_3 a0 8 then
  zk_l ((zh_I s_3 a0 9)) fun i_6 =>
  zk_b (zf_M_head n s_3 a0 (48 : Int32) i_4) fun i_8 s_7 =>
  if zh_oo s_7 a0 8 then
  zk_p (zh_R s_7 a0 11) fun a_10 =>
  zk_b (zf_M_title n s_7 a0 (19 : Int32) i_8) fun j_13 s_12 =>
  if zh_oa s_12 a_10 1 (1 : Int32) then
  zk_l (zh_uJ s_12 a_10 ((1 : Int32).toNatClampNeg) j_13) fun s_14 =>
  if zh_oo s_14 a0 8 then
  zk_p (zh_R s_14 a0 11) fun a_17 =>
  zk_b (zf_M_number n s_14 a0 i_8) fun j_20 s_19 =>
  if zh_oa s_19 a_17 1 (2 : Int32) then
  zk_l (zh_uJ s_19 a_17 ((2 : Int32).toNatClampNeg) j_20) fun s_21 =>
  if zh_oo s_21 a0 8 then
  zk_p (zh_R s_21 a0 11) fun a_24 =>
  zk_b (zf_M_number n s_21 a0 i_8) fun j_27 s_26 =>
  if zh_oa s_26 a_24 1 (3 : Int32) then
  zk_l (zh_uJ s_26 a_24 ((3 : Int32).toNatClampNeg) j_27) fun s_28 =>
  if zh_oo s_28 a0 8 then
  zk_b (zf_M_head n s_28 a0 (48 : Int32) i_8) fun i_32 s_30 =>
  zl_M_readList_73 n n s_30 a0 i_4 i_6 i_8 i_32
  else none
  else none
  else none
  else none
  else none
  else none
  else none
  else none
  else none
def zb_M_realm_86 (n : Nat) (s0 : zh_S) (a0 : Nat) (i3 : Int32) : Option zh_S :=
  if zh_oo s0 a0 8 then
  zk_p (zf_M_done n s0 a0 i3) fun s_1 =>
  some s_1
  else none
def zb_M_realm_60 (n : Nat) (s0 : zh_S) (a0 : Nat) (i3 : Int32) : Option zh_S :=
  if zh_oo s0 a0 8 then
  zk_p (zf_M_next n s0 a0 (129 : Int32) i3) fun i_2 =>
  if i_2 = 0 then
    zb_M_realm_86 n s0 a0 i3
  else
    zk_p (zh_R s0 a0 11) fun a_3 =>
    zk_b (zf_M_title n s0 a0 (129 : Int32) i3) fun j_6 s_5 =>
    if zh_oa s_5 a_3 1 (12 : Int32) then
    zk_l (zh_uJ s_5 a_3 ((12 : Int32).toNatClampNeg) j_6) fun s_7 =>
    zb_M_realm_86 n s_7 a0 i3
    else none
  else none
def zb_M_realm_34 (n : Nat) (s0 : zh_S) (a0 : Nat) (i3 : Int32) : Option zh_S :=
  if zh_oo s0 a0 8 then
  zk_p (zf_M_next n s0 a0 (128 : Int32) i3) fun i_2 =>
  if i_2 = 0 then
    zb_M_realm_60 n s0 a0 i3
  else
    zk_p (zh_R s0 a0 11) fun a_3 =>
    zk_b (zf_M_title n s0 a0 (128 : Int32) i3) fun j_6 s_5 =>
    if zh_oa s_5 a_3 1 (11 : Int32) then
    zk_l (zh_uJ s_5 a_3 ((11 : Int32).toNatClampNeg) j_6) fun s_7 =>
    zb_M_realm_60 n s_7 a0 i3
    else none
  else none
def zf_M_realm (n : Nat) (s0 : zh_S) (a0 : Nat) (i1 : Int32) : Option zh_S :=
  if zh_oo s0 a0 8 then
  zk_l ((zh_I s0 a0 9)) fun i_2 =>
  zk_b (zf_M_head n s0 a0 (48 : Int32) i1) fun i_4 s_3 =>
  if zh_oo s_3 a0 8 then
  if (zh_I s_3 a0 10) = 0 then
    if i_4 = (zh_I s_3 a0 9) then
      zk_p (zf_M_fails n s_3 a0 (4 : Int32) i_2) fun s_6 =>
      zb_M_realm_34 n s_6 a0 i_4
    else
      zb_M_realm_34 n s_3 a0 i_4
  else
    zb_M_realm_34 n s_3 a0 i_4
  else none
  else none
def zb_M_truth_66 (n : Nat) (s0 : zh_S) (at0 : Nat) (it1 : Int32) : Option zh_S :=
  if zh_oo s0 at0 8 then
  zk_l (zh_uI s0 at0 9 it1) fun s_1 =>
  some s_1
  else none
def zb_M_truth_50 (n : Nat) (s0 : zh_S) (a0 : Nat) (i3 : Int32) : Option zh_S :=
  if zh_oo s0 a0 8 then
  if (zh_I s0 a0 10) = 0 then
    zb_M_truth_66 n s0 a0 i3
  else
    zb_M_truth_66 n s0 a0 (zh_I s0 a0 9)
  else none
def zb_M_truth_44 (n : Nat) (s0 : zh_S) (a0 : Nat) (i2 : Int32) (i3 : Int32) : Option zh_S :=
  if zh_oo s0 a0 8 then
  zk_p (zf_M_fails n s0 a0 (4 : Int32) i2) fun s_1 =>
  zb_M_truth_50 n s_1 a0 i3
  else none
def zf_M_truth (n : Nat) (s0 : zh_S) (a0 : Nat) (i1 : Int32) : Option zh_S :=
  if zh_oo s0 a0 8 then
  zk_l ((zh_I s0 a0 9)) fun i_2 =>
  zk_b (zf_M_head n s0 a0 (1 : Int32) i1) fun i_4 s_3 =>
  if zh_oo s_3 a0 8 then
  if (zh_I s_3 a0 10) = 0 then
    if (i_4 - (zh_I s_3 a0 9)) = (1 : Int32) then
      zk_p (zh_R s_3 a0 0) fun a_6 =>
      if zh_oa s_3 a_6 0 (zh_I s_3 a0 9) then
      if (zh_I s_3 a_6 ((zh_I s_3 a0 9).toNatClampNeg)) = (255 : Int32) then
        zb_M_truth_50 n s_3 a0 i_4
      else
        zb_M_truth_44 n s_3 a0 i_2 i_4
      else none
    else
      zb_M_truth_44 n s_3 a0 i_2 i_4
  else
    zb_M_truth_50 n s_3 a0 i_4
  else none
  else none
def zb_M_basic_87 (n : Nat) (s0 : zh_S) (a0 : Nat) (i2 : Int32) : Option zh_S :=
  if zh_oo s0 a0 8 then
  zk_p (zf_M_done n s0 a0 i2) fun s_1 =>
  some s_1
  else none
def zf_M_basic (n : Nat) (s0 : zh_S) (a0 : Nat) (i1 : Int32) : Option zh_S :=
  if zh_oo s0 a0 8 then
  zk_b (zf_M_head n s0 a0 (48 : Int32) i1) fun i_3 s_1 =>
  if zh_oo s_1 a0 8 then
  if (zh_I s_1 a0 10) = 0 then
    zk_p (zh_R s_1 a0 11) fun a_5 =>
    zk_p (zh_R s_1 a0 11) fun a_7 =>
    if zh_oa s_1 a_7 1 (14 : Int32) then
    if zh_oa s_1 a_5 1 (14 : Int32) then
    zk_l (zh_uJ s_1 a_5 ((14 : Int32).toNatClampNeg) ((zh_J s_1 a_7 ((14 : Int32).toNatClampNeg)) ||| (2 : Int64))) fun s_10 =>
    if zh_oo s_10 a0 8 then
    zk_p (zf_M_next n s_10 a0 (1 : Int32) i_3) fun i_13 =>
    if i_13 = 0 then
      zb_M_basic_87 n s_10 a0 i_3
    else
      zk_p (zf_M_truth n s_10 a0 i_3) fun s_14 =>
      if zh_oo s_14 a0 8 then
      zk_p (zh_R s_14 a0 11) fun a_16 =>
      zk_p (zh_R s_14 a0 11) fun a_18 =>
      if zh_oa s_14 a_18 1 (14 : Int32) then
      if zh_oa s_14 a_16 1 (14 : Int32) then
      zk_l (zh_uJ s_14 a_16 ((14 : Int32).toNatClampNeg) ((zh_J s_14 a_18 ((14 : Int32).toNatClampNeg)) ||| (4 : Int64))) fun s_21 =>
      if zh_oo s_21 a0 8 then
      zk_p (zf_M_next n s_21 a0 (2 : Int32) i_3) fun i_24 =>
      if i_24 = 0 then
        zb_M_basic_87 n s_21 a0 i_3
      else
        zk_p (zh_R s_21 a0 11) fun a_25 =>
        zk_b (zf_M_number n s_21 a0 i_3) fun j_28 s_27 =>
        if zh_oa s_27 a_25 1 (9 : Int32) then
        zk_l (zh_uJ s_27 a_25 ((9 : Int32).toNatClampNeg) j_28) fun s_29 =>
        zb_M_basic_87 n s_29 a0 i_3
        else none
      else none
      else none
      else none
      else none
    else none
    else none
    else none
  else
    some s_1
  else none
  else none
def zb_M_extension_232 (n : Nat) (s0 : zh_S) (a0 : Nat) (i4 : Int32) (j6 : Int64) : Option (Int64 × zh_S) :=
  if zh_oo s0 a0 8 then
  zk_p (zf_M_done n s0 a0 i4) fun s_1 =>
  if zh_oo s_1 a0 8 then
  zk_p (zh_R s_1 a0 11) fun a_4 =>
  if zh_oa s_1 a_4 1 (13 : Int32) then
  if zh_oa s_1 a_4 1 (13 : Int32) then
  zk_l (zh_uJ s_1 a_4 ((13 : Int32).toNatClampNeg) ((zh_J s_1 a_4 ((13 : Int32).toNatClampNeg)) + (1 : Int64))) fun s_7 =>
  some (j6, s_7)
  else none
  else none
  else none
  else none
def zb_M_extension_231 (n : Nat) (s0 : zh_S) (a0 : Nat) (i4 : Int32) (j6 : Int64) (at0 : Nat) (it1 : Int32) (jt2 : Int64) : Option (Int64 × zh_S) :=
  if zh_oa s0 at0 1 it1 then
  zk_l (zh_uJ s0 at0 (it1.toNatClampNeg) jt2) fun s_1 =>
  zb_M_extension_232 n s_1 a0 i4 j6
  else none
def zb_M_extension_196 (n : Nat) (s0 : zh_S) (a0 : Nat) (i4 : Int32) (j6 : Int64) (i8 : Int32) (at0 : Nat) (it1 : Int32) : Option (Int64 × zh_S) :=
  if zh_oo s0 at0 8 then
  zk_l (zh_uI s0 at0 9 it1) fun s_1 =>
  if zh_oo s_1 a0 8 then
  zk_p (zh_R s_1 a0 11) fun a_4 =>
  if i8 = 0 then
    zk_p (zh_R s_1 a0 11) fun a_6 =>
    if zh_oa s_1 a_6 1 (14 : Int32) then
    zb_M_extension_231 n s_1 a0 i4 j6 a_4 (14 : Int32) (zh_J s_1 a_6 ((14 : Int32).toNatClampNeg))
    else none
  else
    zk_p (zh_R s_1 a0 11) fun a_9 =>
    if zh_oa s_1 a_9 1 (14 : Int32) then
    zb_M_extension_231 n s_1 a0 i4 j6 a_4 (14 : Int32) ((zh_J s_1 a_9 ((14 : Int32).toNatClampNeg)) ||| (8 : Int64))
    else none
  else none
  else none
def zb_M_extension_64 (n : Nat) (s0 : zh_S) (a0 : Nat) (i4 : Int32) (j6 : Int64) (i8 : Int32) : Option (Int64 × zh_S) :=
  if zh_oo s0 a0 8 then
  if (zh_I s0 a0 10) = 0 then
    zk_l ((zh_I s0 a0 9)) fun i_2 =>
    if (lg_cmp j6 (1 : Int64)) = 0 then
      zk_p (zf_M_basic n s0 a0 i4) fun s_19 =>
      zb_M_extension_232 n s_19 a0 i4 j6
    else
      if (lg_cmp j6 (2 : Int64)) = 0 then
        zk_p (zh_R s0 a0 11) fun a_7 =>
        zk_b (zf_M_number n s0 a0 i4) fun j_10 s_9 =>
        if zh_oa s_9 a_7 1 (10 : Int32) then
        zk_l (zh_uJ s_9 a_7 ((10 : Int32).toNatClampNeg) j_10) fun s_11 =>
        if zh_oo s_11 a0 8 then
        if (zh_I s_11 a0 10) = 0 then
          zk_p (zh_R s_11 a0 11) fun a_14 =>
          if zh_oa s_11 a_14 1 (10 : Int32) then
          zk_p (zf_M_in n (zh_J s_11 a_14 ((10 : Int32).toNatClampNeg)) (1 : Int64) (7 : Int64)) fun i_17 =>
          if i_17 = 0 then
            zk_p (zf_M_fails n s_11 a0 (4 : Int32) i_2) fun s_18 =>
            zb_M_extension_232 n s_18 a0 i4 j6
          else
            zb_M_extension_232 n s_11 a0 i4 j6
          else none
        else
          zb_M_extension_232 n s_11 a0 i4 j6
        else none
        else none
      else
        if (lg_cmp j6 (3 : Int64)) = 0 then
          zk_p (zf_M_realm n s0 a0 i4) fun s_6 =>
          zb_M_extension_232 n s_6 a0 i4 j6
        else
          zk_b (zf_M_head n s0 a0 (4 : Int32) i4) fun i_4 s_3 =>
          if zh_oo s_3 a0 8 then
          if (zh_I s_3 a0 10) = 0 then
            zb_M_extension_196 n s_3 a0 i4 j6 i8 a0 i_4
          else
            zb_M_extension_196 n s_3 a0 i4 j6 i8 a0 (zh_I s_3 a0 9)
          else none
  else
    some (j6, s0)
  else none
def zb_M_extension_44 (n : Nat) (s0 : zh_S) (a0 : Nat) (i4 : Int32) (j6 : Int64) : Option (Int64 × zh_S) :=
  if zh_oo s0 a0 8 then
  zk_p (zf_M_next n s0 a0 (1 : Int32) i4) fun i_2 =>
  if i_2 = 0 then
    zb_M_extension_64 n s0 a0 i4 j6 i_2
  else
    zk_p (zf_M_truth n s0 a0 i4) fun s_3 =>
    zb_M_extension_64 n s_3 a0 i4 j6 i_2
  else none
def zf_M_extension (n : Nat) (s0 : zh_S) (a0 : Nat) (j1 : Int64) (i3 : Int32) : Option (Int64 × zh_S) :=
  if zh_oo s0 a0 8 then
  zk_b (zf_M_head n s0 a0 (48 : Int32) i3) fun i_3 s_1 =>
  if zh_oo s_1 a0 8 then
  zk_l ((zh_I s_1 a0 9)) fun i_5 =>
  zk_b (zf_M_number n s_1 a0 i_3) fun j_7 s_6 =>
  if zh_oo s_6 a0 8 then
  if (zh_I s_6 a0 10) = 0 then
    if 0 < (lg_cmp j_7 j1) then
      zb_M_extension_44 n s_6 a0 i_3 j_7
    else
      zk_p (zf_M_fails n s_6 a0 (4 : Int32) i_5) fun s_9 =>
      zb_M_extension_44 n s_9 a0 i_3 j_7
  else
    zb_M_extension_44 n s_6 a0 i_3 j_7
  else none
  else none
  else none
def zb_M_readCertificate_227 (n : Nat) (s0 : zh_S) (a0 : Nat) (i1 : Int32) : Option zh_S :=
  if zh_oo s0 a0 8 then
  zk_p (zh_R s0 a0 11) fun a_2 =>
  zk_b (zf_M_number n s0 a0 i1) fun j_5 s_4 =>
  if zh_oa s_4 a_2 1 (7 : Int32) then
  zk_l (zh_uJ s_4 a_2 ((7 : Int32).toNatClampNeg) j_5) fun s_6 =>
  if zh_oo s_6 a0 8 then
  zk_p (zf_M_done n s_6 a0 i1) fun s_8 =>
  if zh_oo s_8 a0 8 then
  zk_p (zf_M_done n s_8 a0 (zh_I s_8 a0 1)) fun s_11 =>
  some s_11
  else none
  else none
  else none
  else none
def zb_M_readCertificate_200 (n : Nat) (s0 : zh_S) (a0 : Nat) (i1 : Int32) (i2 : Int32) (i3 : Int32) (i4 : Int32) : Option zh_S :=
  if zh_oo s0 a0 8 then
  zk_p (zf_M_done n s0 a0 i3) fun s_1 =>
  if zh_oo s_1 a0 8 then
  if (zh_I s_1 a0 10) = 0 then
    zk_p (zh_R s_1 a0 11) fun a_4 =>
    zk_p (zf_M_hash n s_1 a0 i2 i4) fun i_6 =>
    if zh_oa s_1 a_4 1 (8 : Int32) then
    zk_l (zh_uJ s_1 a_4 ((8 : Int32).toNatClampNeg) (i_6.toInt64)) fun s_7 =>
    zb_M_readCertificate_227 n s_7 a0 i1
    else none
  else
    zb_M_readCertificate_227 n s_1 a0 i1
  else none
  else none
def zl_M_readCertificate_170 (n : Nat) : Nat → zh_S → Nat → Int32 → Int32 → Int32 → Int32 → Int32 → Int64 → Option zh_S
  | 0, _, _, _, _, _, _, _, _ => none
  | k + 1, s0, a0, i1, i2, i3, i4, i5, j6 =>
    if zh_oo s0 a0 8 then
    zk_p (zf_M_next n s0 a0 (48 : Int32) i5) fun i_2 =>
    if i_2 = 0 then
      zk_p (zf_M_done n s0 a0 i5) fun s_3 =>
      zb_M_readCertificate_200 n s_3 a0 i1 i2 i3 i4
    else
      zk_b (zf_M_extension n s0 a0 j6 i5) fun j_5 s_4 =>
      zl_M_readCertificate_170 n k s_4 a0 i1 i2 i3 i4 i5 j_5
    else none
def zl_M_readCertificate_2 (n : Nat) : Nat → zh_S → Nat → Int32 → Option zh_S
  | 0, _, _, _ => none
  | k + 1, s0, a0, i1 =>
    if (15 : Int32) ≤ i1 then
      if zh_oo s0 a0 8 then
      zk_p (zh_R s0 a0 11) fun a_2 =>
      if zh_oa s0 a_2 1 (9 : Int32) then
      zk_l (zh_uJ s0 a_2 ((9 : Int32).toNatClampNeg) (-1 : Int64)) fun s_4 =>
      if zh_oo s_4 a0 8 then
      zk_b (zf_M_head n s_4 a0 (48 : Int32) (zh_I s_4 a0 1)) fun i_8 s_7 =>
      if zh_oo s_7 a0 8 then
      zk_l ((zh_I s_7 a0 9)) fun i_10 =>
      zk_b (zf_M_head n s_7 a0 (48 : Int32) i_8) fun i_12 s_11 =>
      if zh_oo s_11 a0 8 then
      zk_p (zh_R s_11 a0 11) fun a_14 =>
      zk_b (zf_M_number n s_11 a0 i_12) fun j_17 s_16 =>
      if zh_oa s_16 a_14 1 (0 : Int32) then
      zk_l (zh_uJ s_16 a_14 ((0 : Int32).toNatClampNeg) j_17) fun s_18 =>
      if zh_oo s_18 a0 8 then
      zk_p (zh_R s_18 a0 11) fun a_21 =>
      zk_b (zf_M_title n s_18 a0 (19 : Int32) i_12) fun j_24 s_23 =>
      if zh_oa s_23 a_21 1 (1 : Int32) then
      zk_l (zh_uJ s_23 a_21 ((1 : Int32).toNatClampNeg) j_24) fun s_25 =>
      if zh_oo s_25 a0 8 then
      zk_p (zh_R s_25 a0 11) fun a_28 =>
      zk_b (zf_M_number n s_25 a0 i_12) fun j_31 s_30 =>
      if zh_oa s_30 a_28 1 (2 : Int32) then
      zk_l (zh_uJ s_30 a_28 ((2 : Int32).toNatClampNeg) j_31) fun s_32 =>
      if zh_oo s_32 a0 8 then
      zk_p (zh_R s_32 a0 11) fun a_35 =>
      zk_b (zf_M_number n s_32 a0 i_12) fun j_38 s_37 =>
      if zh_oa s_37 a_35 1 (3 : Int32) then
      zk_l (zh_uJ s_37 a_35 ((3 : Int32).toNatClampNeg) j_38) fun s_39 =>
      if zh_oo s_39 a0 8 then
      zk_p (zh_R s_39 a0 11) fun a_42 =>
      zk_b (zf_M_title n s_39 a0 (19 : Int32) i_12) fun j_45 s_44 =>
      if zh_oa s_44 a_42 1 (4 : Int32) then
      zk_l (zh_uJ s_44 a_42 ((4 : Int32).toNatClampNeg) j_45) fun s_46 =>
      if zh_oo s_46 a0 8 then
      zk_p (zh_R s_46 a0 11) fun a_49 =>
      zk_b (zf_M_number n s_46 a0 i_12) fun j_52 s_51 =>
      if zh_oa s_51 a_49 1 (5 : Int32) then
      zk_l (zh_uJ s_51 a_49 ((5 : Int32).toNatClampNeg) j_52) fun s_53 =>
      if zh_oo s_53 a0 8 then
      zk_p (zh_R s_53 a0 11) fun a_56 =>
      zk_b (zf_M_number n s_53 a0 i_12) fun j_59 s_58 =>
      if zh_oa s_58 a_56 1 (6 : Int32) then
      zk_l (zh_uJ s_58 a_56 ((6 : Int32).toNatClampNeg) j_59) fun s_60 =>
      if zh_oo s_60 a0 8 then
      zk_p (zf_M_next n s_60 a0 (48 : Int32) i_12) fun i_63 =>
      if i_63 = 0 then
        zb_M_readCertificate_200 n s_60 a0 i_8 i_10 i_12 i_12
      else
        zk_b (zf_M_head n s_60 a0 (48 : Int32) i_12) fun i_65 s_64 =>
        if zh_oo s_64 a0 8 then
        zk_b (zf_M_extension n s_64 a0 (-1 : Int64) i_65) fun j_68 s_66 =>
        zl_M_readCertificate_170 n n s_66 a0 i_8 i_10 i_12 i_12 i_65 j_68
        else none
      else none
      else none
      else none
      else none
      else none
      else none
      else none
      else none
      else none
      else none
      else none
      else none
      else none
      else none
      else none
      else none
      else none
      else none
      else none
    else
      if zh_oo s0 a0 8 then
      zk_p (zh_R s0 a0 11) fun a_70 =>
      if zh_oa s0 a_70 1 i1 then
      zk_l (zh_uJ s0 a_70 (i1.toNatClampNeg) (0 : Int64)) fun s_72 =>
      zk_l (i1 + (1 : Int32)) fun i_74 =>
      zl_M_readCertificate_2 n k s_72 a0 i_74
      else none
      else none
def zf_M_readCertificate (n : Nat) (s0 : zh_S) (a0 : Nat) : Option zh_S :=
  zl_M_readCertificate_2 n n s0 a0 (0 : Int32)
def zf_M_check (n : Nat) (s0 : zh_S) (a0 : Nat) (i1 : Int32) : Option (Int32 × zh_S) :=
  if zh_oo s0 a0 8 then
  zk_l (zh_uI s0 a0 9 (0 : Int32)) fun s_1 =>
  zk_l (zh_uI s_1 a0 10 (0 : Int32)) fun s_3 =>
  if i1 = 0 then
    zk_p (zf_M_readList n s_3 a0) fun s_4 =>
    if zh_oo s_4 a0 8 then
    some ((zh_I s_4 a0 10), s_4)
    else none
  else
    zk_p (zf_M_readCertificate n s_3 a0) fun s_6 =>
    if zh_oo s_6 a0 8 then
    some ((zh_I s_6 a0 10), s_6)
    else none
  else none
def zl_M_storeList_108 (n : Nat) : Nat → zh_S → Nat → Int32 → Int32 → Option (Int32 × zh_S)
  | 0, _, _, _, _ => none
  | k + 1, s0, a0, i1, i2 =>
    if zh_oo s0 a0 8 then
    if (zh_I s0 a0 12) ≤ i2 then
      zk_l (zh_uI s0 a0 17 ((zh_I s0 a0 17) + (1 : Int32))) fun s_2 =>
      some (i1, s_2)
    else
      zk_p (zh_R s0 a0 19) fun a_3 =>
      zk_p (zh_R s0 a0 13) fun a_5 =>
      if zh_oa s0 a_5 1 i2 then
      if zh_oa s0 a_3 1 (((4 : Int32) * i1) + i2) then
      zk_l (zh_uJ s0 a_3 ((((4 : Int32) * i1) + i2).toNatClampNeg) (zh_J s0 a_5 (i2.toNatClampNeg))) fun s_8 =>
      if zh_oo s_8 a0 8 then
      zk_p (zh_R s_8 a0 20) fun a_11 =>
      zk_p (zh_R s_8 a0 14) fun a_13 =>
      if zh_oa s_8 a_13 1 i2 then
      if zh_oa s_8 a_11 1 (((4 : Int32) * i1) + i2) then
      zk_l (zh_uJ s_8 a_11 ((((4 : Int32) * i1) + i2).toNatClampNeg) (zh_J s_8 a_13 (i2.toNatClampNeg))) fun s_16 =>
      zk_l (i2 + (1 : Int32)) fun i_18 =>
      zl_M_storeList_108 n k s_16 a0 i1 i_18
      else none
      else none
      else none
      else none
      else none
    else none
def zf_M_storeList (n : Nat) (s0 : zh_S) (a0 : Nat) : Option (Int32 × zh_S) :=
  if zh_oo s0 a0 8 then
  zk_l ((zh_I s0 a0 17)) fun i_2 =>
  zk_p (zh_R s0 a0 18) fun a_3 =>
  zk_p (zh_R s0 a0 11) fun a_5 =>
  if zh_oa s0 a_5 1 (1 : Int32) then
  if zh_oa s0 a_3 1 ((6 : Int32) * i_2) then
  zk_l (zh_uJ s0 a_3 (((6 : Int32) * i_2).toNatClampNeg) (zh_J s0 a_5 ((1 : Int32).toNatClampNeg))) fun s_8 =>
  if zh_oo s_8 a0 8 then
  zk_p (zh_R s_8 a0 18) fun a_11 =>
  zk_p (zh_R s_8 a0 11) fun a_13 =>
  if zh_oa s_8 a_13 1 (2 : Int32) then
  if zh_oa s_8 a_11 1 (((6 : Int32) * i_2) + (1 : Int32)) then
  zk_l (zh_uJ s_8 a_11 ((((6 : Int32) * i_2) + (1 : Int32)).toNatClampNeg) (zh_J s_8 a_13 ((2 : Int32).toNatClampNeg))) fun s_16 =>
  if zh_oo s_16 a0 8 then
  zk_p (zh_R s_16 a0 18) fun a_19 =>
  zk_p (zh_R s_16 a0 11) fun a_21 =>
  if zh_oa s_16 a_21 1 (3 : Int32) then
  if zh_oa s_16 a_19 1 (((6 : Int32) * i_2) + (2 : Int32)) then
  zk_l (zh_uJ s_16 a_19 ((((6 : Int32) * i_2) + (2 : Int32)).toNatClampNeg) (zh_J s_16 a_21 ((3 : Int32).toNatClampNeg))) fun s_24 =>
  if zh_oo s_24 a0 8 then
  zk_p (zh_R s_24 a0 18) fun a_27 =>
  if zh_oa s_24 a_27 1 (((6 : Int32) * i_2) + (3 : Int32)) then
  zk_l (zh_uJ s_24 a_27 ((((6 : Int32) * i_2) + (3 : Int32)).toNatClampNeg) ((zh_I s_24 a0 12).toInt64)) fun s_29 =>
  if zh_oo s_29 a0 8 then
  zk_p (zh_R s_29 a0 18) fun a_32 =>
  zk_p (zh_R s_29 a0 11) fun a_34 =>
  if zh_oa s_29 a_34 1 (7 : Int32) then
  if zh_oa s_29 a_32 1 (((6 : Int32) * i_2) + (4 : Int32)) then
  zk_l (zh_uJ s_29 a_32 ((((6 : Int32) * i_2) + (4 : Int32)).toNatClampNeg) (zh_J s_29 a_34 ((7 : Int32).toNatClampNeg))) fun s_37 =>
  if zh_oo s_37 a0 8 then
  zk_p (zh_R s_37 a0 18) fun a_40 =>
  zk_p (zh_R s_37 a0 11) fun a_42 =>
  if zh_oa s_37 a_42 1 (8 : Int32) then
  if zh_oa s_37 a_40 1 (((6 : Int32) * i_2) + (5 : Int32)) then
  zk_l (zh_uJ s_37 a_40 ((((6 : Int32) * i_2) + (5 : Int32)).toNatClampNeg) (zh_J s_37 a_42 ((8 : Int32).toNatClampNeg))) fun s_45 =>
  zl_M_storeList_108 n n s_45 a0 i_2 (0 : Int32)
  else none
  else none
  else none
  else none
  else none
  else none
  else none
  else none
  else none
  else none
  else none
  else none
  else none
  else none
  else none
  else none
  else none
def zb_M_store_131 (n : Nat) (s0 : zh_S) (a0 : Nat) (at0 : Nat) (it1 : Int32) (jt2 : Int64) (jt3 : Int64) : Option (Int32 × zh_S) :=
  if zh_oa s0 at0 1 it1 then
  zk_l (zh_uJ s0 at0 (it1.toNatClampNeg) (jt2 ||| jt3)) fun s_1 =>
  if zh_oo s_1 a0 8 then
  zk_l (zh_uI s_1 a0 15 ((zh_I s_1 a0 15) + (1 : Int32))) fun s_4 =>
  some (((zh_I s_4 a0 15) - (1 : Int32)), s_4)
  else none
  else none
def zl_M_store_69 (n : Nat) : Nat → zh_S → Nat → Int32 → Int32 → Option (Int32 × zh_S)
  | 0, _, _, _, _ => none
  | k + 1, s0, a0, i1, i2 =>
    if (15 : Int32) ≤ i2 then
      if zh_oo s0 a0 8 then
      zk_p (zh_R s0 a0 16) fun a_2 =>
      zk_p (zh_R s0 a0 11) fun a_4 =>
      if zh_oa s0 a_4 1 (14 : Int32) then
      if i1 = 0 then
        zb_M_store_131 n s0 a0 a_2 (((15 : Int32) * (zh_I s0 a0 15)) + (14 : Int32)) (zh_J s0 a_4 ((14 : Int32).toNatClampNeg)) (1 : Int64)
      else
        zb_M_store_131 n s0 a0 a_2 (((15 : Int32) * (zh_I s0 a0 15)) + (14 : Int32)) (zh_J s0 a_4 ((14 : Int32).toNatClampNeg)) (0 : Int64)
      else none
      else none
    else
      if zh_oo s0 a0 8 then
      zk_p (zh_R s0 a0 16) fun a_8 =>
      zk_p (zh_R s0 a0 11) fun a_10 =>
      if zh_oa s0 a_10 1 i2 then
      if zh_oa s0 a_8 1 (((15 : Int32) * (zh_I s0 a0 15)) + i2) then
      zk_l (zh_uJ s0 a_8 ((((15 : Int32) * (zh_I s0 a0 15)) + i2).toNatClampNeg) (zh_J s0 a_10 (i2.toNatClampNeg))) fun s_13 =>
      zk_l (i2 + (1 : Int32)) fun i_15 =>
      zl_M_store_69 n k s_13 a0 i1 i_15
      else none
      else none
      else none
def zb_M_store_48 (n : Nat) (s0 : zh_S) (a0 : Nat) (i1 : Int32) (at0 : Nat) (it1 : Int32) : Option (Int32 × zh_S) :=
  if zh_oo s0 at0 8 then
  zk_b (zf_M_check n s0 at0 it1) fun i_3 s_1 =>
  if i_3 = 0 then
    if i1 = (2 : Int32) then
      if zh_oo s_1 a0 8 then
      zk_b (zf_M_storeList n s_1 a0) fun i_6 s_4 =>
      some (i_6, s_4)
      else none
    else
      zl_M_store_69 n n s_1 a0 i1 (0 : Int32)
  else
    some ((-2 : Int32), s_1)
  else none
def zb_M_store_37 (n : Nat) (s0 : zh_S) (a0 : Nat) (i1 : Int32) : Option (Int32 × zh_S) :=
  if (2 : Int32) ≤ i1 then
    zb_M_store_48 n s0 a0 i1 a0 (0 : Int32)
  else
    zb_M_store_48 n s0 a0 i1 a0 (1 : Int32)
def zf_M_store (n : Nat) (s0 : zh_S) (a0 : Nat) (i1 : Int32) : Option (Int32 × zh_S) :=
  if i1 < 0 then
    some ((-1 : Int32), s0)
  else
    if (2 : Int32) < i1 then
      some ((-1 : Int32), s0)
    else
      if i1 = (2 : Int32) then
        if zh_oo s0 a0 8 then
        if (zh_I s0 a0 17) = (6 : Int32) then
          some ((-1 : Int32), s0)
        else
          zb_M_store_37 n s0 a0 i1
        else none
      else
        if zh_oo s0 a0 8 then
        if (zh_I s0 a0 15) = (12 : Int32) then
          some ((-1 : Int32), s0)
        else
          zb_M_store_37 n s0 a0 i1
        else none
def zf_V_check (n : Nat) (s0 : zh_S) (a0 : Nat) (i1 : Int32) : Option (Int32 × zh_S) :=
  zk_l (zh_N s0) fun a_2 =>
  zk_l (zh_new s0 (2, 2) 3) fun s_1 =>
  if zh_oo s_1 a0 7 then
  zk_p (zh_R s_1 a0 0) fun a_4 =>
  zk_p (zf_Reader_init n s_1 a_2 a_4) fun s_6 =>
  if i1 = 0 then
    if zh_oo s_6 a0 7 then
    zk_p (zh_R s_6 a0 2) fun a_8 =>
    if zh_oo s_6 a_8 5 then
    zk_p (zf_Shelf_nextList n s_6 a_8) fun a_11 =>
    if zh_oo s_6 a_2 2 then
    zk_b (zf_Reader_readList n s_6 a_2 a_11) fun i_14 s_12 =>
    some (i_14, s_12)
    else none
    else none
    else none
  else
    if zh_oo s_6 a0 7 then
    zk_p (zh_R s_6 a0 2) fun a_16 =>
    if zh_oo s_6 a_16 5 then
    zk_p (zf_Shelf_nextCertificate n s_6 a_16) fun a_19 =>
    if zh_oo s_6 a_2 2 then
    zk_b (zf_Reader_readCertificate n s_6 a_2 a_19) fun i_22 s_20 =>
    some (i_22, s_20)
    else none
    else none
    else none
  else none
def zf_Draft_empty (n : Nat) (s0 : zh_S) (a0 : Nat) : Option zh_S :=
  if zh_oo s0 a0 1 then
  zk_l (zh_uI s0 a0 1 (0 : Int32)) fun s_1 =>
  some s_1
  else none
def zf_Draft_isByte (n : Nat) (i0 : Int32) : Option Int32 :=
  if i0 < 0 then
    some (0 : Int32)
  else
    if (255 : Int32) < i0 then
      some (0 : Int32)
    else
      some (1 : Int32)
def zf_Draft_append (n : Nat) (s0 : zh_S) (a0 : Nat) (i1 : Int32) : Option (Int32 × zh_S) :=
  zk_p (zf_Draft_isByte n i1) fun i_1 =>
  if i_1 = 0 then
    some ((0 : Int32), s0)
  else
    if zh_oo s0 a0 1 then
    if (zh_I s0 a0 1) < (200 : Int32) then
      zk_p (zh_R s0 a0 0) fun a_3 =>
      if zh_oa s0 a_3 0 (zh_I s0 a0 1) then
      zk_l (zh_uI s0 a_3 ((zh_I s0 a0 1).toNatClampNeg) i1) fun s_5 =>
      if zh_oo s_5 a0 1 then
      zk_l (zh_uI s_5 a0 1 ((zh_I s_5 a0 1) + (1 : Int32))) fun s_8 =>
      some ((1 : Int32), s_8)
      else none
      else none
    else
      some ((0 : Int32), s0)
    else none
def zl_Names_length_4 (n : Nat) : Nat → Int32 → Int64 → Option Int32
  | 0, _, _ => none
  | k + 1, i2, j3 =>
    if (lg_cmp j3 (0 : Int64)) = 0 then
      some i2
    else
      zk_l (i2 + (1 : Int32)) fun i_1 =>
      zk_l ((zu_l j3 (5 : Int32))) fun j_2 =>
      zl_Names_length_4 n k i_1 j_2
def zf_Names_length (n : Nat) (j0 : Int64) : Option Int32 :=
  zl_Names_length_4 n n (0 : Int32) j0
def zf_Names_toAscii (n : Nat) (i0 : Int32) : Option Int32 :=
  if i0 = (27 : Int32) then
    some (46 : Int32)
  else
    some ((96 : Int32) + i0)
def zl_Draft_appendName_18 (n : Nat) : Nat → zh_S → Nat → Int64 → Option zh_S
  | 0, _, _, _ => none
  | k + 1, s0, a0, j4 =>
    if (lg_cmp j4 (0 : Int64)) = 0 then
      some s0
    else
      zk_p (zf_Names_toAscii n (j4.toInt32 &&& (31 : Int32))) fun i_1 =>
      if zh_oo s0 a0 1 then
      zk_b (zf_Draft_append n s0 a0 i_1) fun i_4 s_2 =>
      zk_l ((zu_l j4 (5 : Int32))) fun j_5 =>
      zl_Draft_appendName_18 n k s_2 a0 j_5
      else none
def zf_Draft_appendName (n : Nat) (s0 : zh_S) (a0 : Nat) (i1 : Int32) (j2 : Int64) : Option zh_S :=
  if zh_oo s0 a0 1 then
  zk_b (zf_Draft_append n s0 a0 i1) fun i_3 s_1 =>
  zk_p (zf_Names_length n j2) fun i_4 =>
  if zh_oo s_1 a0 1 then
  zk_b (zf_Draft_append n s_1 a0 i_4) fun i_7 s_5 =>
  zl_Draft_appendName_18 n n s_5 a0 j2
  else none
  else none
def zl_Draft_appendInteger_44 (n : Nat) : Nat → zh_S → Nat → Int64 → Int32 → Option zh_S
  | 0, _, _, _, _ => none
  | k + 1, s0, a0, j1, i4 =>
    if i4 < 0 then
      some s0
    else
      if zh_oo s0 a0 1 then
      zk_b (zf_Draft_append n s0 a0 ((zu_l j1 ((8 : Int32) * i4)).toInt32 &&& (255 : Int32))) fun i_3 s_1 =>
      zk_l (i4 + (-1 : Int32)) fun i_4 =>
      zl_Draft_appendInteger_44 n k s_1 a0 j1 i_4
      else none
def zb_Draft_appendInteger_27 (n : Nat) (s0 : zh_S) (a0 : Nat) (j1 : Int64) (i3 : Int32) : Option zh_S :=
  if zh_oo s0 a0 1 then
  zk_b (zf_Draft_append n s0 a0 (2 : Int32)) fun i_3 s_1 =>
  if zh_oo s_1 a0 1 then
  zk_b (zf_Draft_append n s_1 a0 i3) fun i_6 s_4 =>
  zk_l ((i3 - (1 : Int32))) fun i_7 =>
  zl_Draft_appendInteger_44 n n s_4 a0 j1 i_7
  else none
  else none
def zl_Draft_appendInteger_2 (n : Nat) : Nat → zh_S → Nat → Int64 → Int32 → Option zh_S
  | 0, _, _, _, _ => none
  | k + 1, s0, a0, j1, i3 =>
    if (8 : Int32) ≤ i3 then
      zb_Draft_appendInteger_27 n s0 a0 j1 i3
    else
      if (lg_cmp (zu_l j1 (((8 : Int32) * i3) - (1 : Int32))) (0 : Int64)) = 0 then
        zb_Draft_appendInteger_27 n s0 a0 j1 i3
      else
        zk_l (i3 + (1 : Int32)) fun i_1 =>
        zl_Draft_appendInteger_2 n k s0 a0 j1 i_1
def zf_Draft_appendInteger (n : Nat) (s0 : zh_S) (a0 : Nat) (j1 : Int64) : Option zh_S :=
  zl_Draft_appendInteger_2 n n s0 a0 j1 (1 : Int32)
def zb_Draft_wrap_94 (n : Nat) (s0 : zh_S) (a0 : Nat) (i1 : Int32) (i3 : Int32) (i4 : Int32) : Option zh_S :=
  if zh_oo s0 a0 1 then
  zk_p (zh_R s0 a0 0) fun a_2 =>
  if zh_oa s0 a_2 0 ((i1 + i4) - (1 : Int32)) then
  zk_l (zh_uI s0 a_2 (((i1 + i4) - (1 : Int32)).toNatClampNeg) i3) fun s_4 =>
  some s_4
  else none
  else none
def zb_Draft_wrap_18 (n : Nat) (s0 : zh_S) (a0 : Nat) (i1 : Int32) (i2 : Int32) (i3 : Int32) (it0 : Int32) : Option zh_S :=
  if i1 < 0 then
    some s0
  else
    if i3 < 0 then
      some s0
    else
      if zh_oo s0 a0 1 then
      if ((zh_I s0 a0 1) + it0) ≤ (200 : Int32) then
        zk_p (zh_R s0 a0 0) fun a_2 =>
        zk_p (zh_R s0 a0 0) fun a_4 =>
        if zh_oc s0 a_2 i1 a_4 (i1 + it0) i3 then
        zk_l (zh_cpy s0 a_2 i1 a_4 (i1 + it0) i3) fun s_6 =>
        if zh_oo s_6 a0 1 then
        zk_l (zh_uI s_6 a0 1 ((zh_I s_6 a0 1) + it0)) fun s_9 =>
        zk_p (zh_R s_9 a0 0) fun a_10 =>
        if zh_oa s_9 a_10 0 i1 then
        zk_l (zh_uI s_9 a_10 (i1.toNatClampNeg) i2) fun s_12 =>
        if it0 = (3 : Int32) then
          if zh_oo s_12 a0 1 then
          zk_p (zh_R s_12 a0 0) fun a_15 =>
          if zh_oa s_12 a_15 0 (i1 + (1 : Int32)) then
          zk_l (zh_uI s_12 a_15 ((i1 + (1 : Int32)).toNatClampNeg) (129 : Int32)) fun s_17 =>
          zb_Draft_wrap_94 n s_17 a0 i1 i3 it0
          else none
          else none
        else
          zb_Draft_wrap_94 n s_12 a0 i1 i3 it0
        else none
        else none
        else none
      else
        some s0
      else none
def zf_Draft_wrap (n : Nat) (s0 : zh_S) (a0 : Nat) (i1 : Int32) (i2 : Int32) : Option zh_S :=
  if zh_oo s0 a0 1 then
  zk_l (((zh_I s0 a0 1) - i1)) fun i_2 =>
  if i_2 ≤ (127 : Int32) then
    zb_Draft_wrap_18 n s0 a0 i1 i2 i_2 (2 : Int32)
  else
    zb_Draft_wrap_18 n s0 a0 i1 i2 i_2 (3 : Int32)
  else none
def zf_Tool_finish (n : Nat) (s0 : zh_S) (a0 : Nat) (a1 : Nat) : Option (Int32 × zh_S) :=
  if zh_oo s0 a1 1 then
  zk_p (zf_Draft_wrap n s0 a1 (0 : Int32) (48 : Int32)) fun s_1 =>
  if zh_oo s_1 a1 1 then
  zk_p (zf_Draft_hash n s_1 a1 (0 : Int32) (zh_I s_1 a1 1)) fun i_4 =>
  if zh_oo s_1 a0 6 then
  zk_p (zh_R s_1 a0 0) fun a_6 =>
  if zh_oa s_1 a_6 1 (12 : Int32) then
  zk_p (zf_Numbers_signature n ((zh_J s_1 a_6 ((12 : Int32).toNatClampNeg)).toInt32) i_4) fun j_9 =>
  zk_p (zf_Draft_appendInteger n s_1 a1 j_9) fun s_10 =>
  if zh_oo s_10 a1 1 then
  zk_p (zf_Draft_wrap n s_10 a1 (0 : Int32) (48 : Int32)) fun s_11 =>
  if zh_oo s_11 a1 1 then
  some ((zh_I s_11 a1 1), s_11)
  else none
  else none
  else none
  else none
  else none
  else none
def zl_Tool_writeList_43 (n : Nat) : Nat → zh_S → Nat → Nat → Int32 → Int32 → Option (Int32 × zh_S)
  | 0, _, _, _, _, _ => none
  | k + 1, s0, a0, a1, i2, i3 =>
    if zh_oo s0 a0 6 then
    if (zh_I s0 a0 3) ≤ i3 then
      if zh_oo s0 a1 1 then
      zk_p (zf_Draft_wrap n s0 a1 i2 (48 : Int32)) fun s_2 =>
      if zh_oo s_2 a0 6 then
      zk_b (zf_Tool_finish n s_2 a0 a1) fun i_6 s_4 =>
      some (i_6, s_4)
      else none
      else none
    else
      if zh_oo s0 a1 1 then
      zk_l ((zh_I s0 a1 1)) fun i_8 =>
      zk_p (zh_R s0 a0 1) fun a_9 =>
      if zh_oa s0 a_9 1 i3 then
      zk_p (zf_Draft_appendInteger n s0 a1 (zh_J s0 a_9 (i3.toNatClampNeg))) fun s_12 =>
      if zh_oo s_12 a0 6 then
      zk_p (zh_R s_12 a0 2) fun a_14 =>
      if zh_oa s_12 a_14 1 i3 then
      if zh_oo s_12 a1 1 then
      zk_p (zf_Draft_appendInteger n s_12 a1 (zh_J s_12 a_14 (i3.toNatClampNeg))) fun s_17 =>
      if zh_oo s_17 a1 1 then
      zk_p (zf_Draft_wrap n s_17 a1 i_8 (48 : Int32)) fun s_19 =>
      zk_l (i3 + (1 : Int32)) fun i_21 =>
      zl_Tool_writeList_43 n k s_19 a0 a1 i2 i_21
      else none
      else none
      else none
      else none
      else none
      else none
    else none
def zf_Tool_writeList (n : Nat) (s0 : zh_S) (a0 : Nat) (a1 : Nat) : Option (Int32 × zh_S) :=
  if zh_oo s0 a1 1 then
  zk_p (zf_Draft_empty n s0 a1) fun s_1 =>
  if zh_oo s_1 a0 6 then
  zk_p (zh_R s_1 a0 0) fun a_4 =>
  if zh_oa s_1 a_4 1 (1 : Int32) then
  if zh_oo s_1 a1 1 then
  zk_p (zf_Draft_appendName n s_1 a1 (19 : Int32) (zh_J s_1 a_4 ((1 : Int32).toNatClampNeg))) fun s_7 =>
  if zh_oo s_7 a0 6 then
  zk_p (zh_R s_7 a0 0) fun a_10 =>
  if zh_oa s_7 a_10 1 (2 : Int32) then
  if zh_oo s_7 a1 1 then
  zk_p (zf_Draft_appendInteger n s_7 a1 (zh_J s_7 a_10 ((2 : Int32).toNatClampNeg))) fun s_13 =>
  if zh_oo s_13 a0 6 then
  zk_p (zh_R s_13 a0 0) fun a_16 =>
  if zh_oa s_13 a_16 1 (3 : Int32) then
  if zh_oo s_13 a1 1 then
  zk_p (zf_Draft_appendInteger n s_13 a1 (zh_J s_13 a_16 ((3 : Int32).toNatClampNeg))) fun s_19 =>
  if zh_oo s_19 a1 1 then
  zk_l ((zh_I s_19 a1 1)) fun i_22 =>
  zl_Tool_writeList_43 n n s_19 a0 a1 i_22 (0 : Int32)
  else none
  else none
  else none
  else none
  else none
  else none
  else none
  else none
  else none
  else none
  else none
def zf_V_composeList (n : Nat) (s0 : zh_S) (a0 : Nat) : Option (Int32 × zh_S) :=
  if zh_oo s0 a0 7 then
  zk_p (zh_R s0 a0 1) fun a_2 =>
  zk_p (zh_R s0 a0 0) fun a_4 =>
  if zh_oo s0 a_2 6 then
  zk_b (zf_Tool_writeList n s0 a_2 a_4) fun i_8 s_6 =>
  some (i_8, s_6)
  else none
  else none
def zf_M_add (n : Nat) (s0 : zh_S) (a0 : Nat) (i1 : Int32) : Option zh_S :=
  if zh_oo s0 a0 8 then
  zk_p (zh_R s0 a0 0) fun a_2 =>
  if zh_oa s0 a_2 0 (zh_I s0 a0 1) then
  zk_l (zh_uI s0 a_2 ((zh_I s0 a0 1).toNatClampNeg) i1) fun s_4 =>
  if zh_oo s_4 a0 8 then
  zk_l (zh_uI s_4 a0 1 ((zh_I s_4 a0 1) + (1 : Int32))) fun s_7 =>
  some s_7
  else none
  else none
  else none
def zb_M_name_58 (n : Nat) (r20 : zh_S → Nat → Int64 → Int32 → Int32 → Option zh_S) (s0 : zh_S) (a0 : Nat) (j2 : Int64) (i4 : Int32) (i5 : Int32) (at0 : Nat) (it1 : Int32) : Option zh_S :=
  if zh_oo s0 at0 8 then
  zk_p (zf_M_add n s0 at0 it1) fun s_1 =>
  zk_l (i5 + (1 : Int32)) fun i_3 =>
  r20 s_1 a0 j2 i4 i_3
  else none
def zl_M_name_20 (n : Nat) : Nat → zh_S → Nat → Int64 → Int32 → Int32 → Option zh_S
  | 0, _, _, _, _, _ => none
  | k + 1, s0, a0, j2, i4, i5 =>
    if i4 ≤ i5 then
      some s0
    else
      zk_l (((j2 >>> (((5 : Int32) * i5).toInt64 &&& 63)) &&& (31 : Int64)).toInt32) fun i_1 =>
      if i_1 = (27 : Int32) then
        zb_M_name_58 n (zl_M_name_20 n k) s0 a0 j2 i4 i5 a0 (46 : Int32)
      else
        zb_M_name_58 n (zl_M_name_20 n k) s0 a0 j2 i4 i5 a0 ((96 : Int32) + i_1)
def zf_M_name (n : Nat) (s0 : zh_S) (a0 : Nat) (i1 : Int32) (j2 : Int64) : Option zh_S :=
  zk_p (zf_M_letters n j2) fun i_1 =>
  if zh_oo s0 a0 8 then
  zk_p (zf_M_add n s0 a0 i1) fun s_2 =>
  if zh_oo s_2 a0 8 then
  zk_p (zf_M_add n s_2 a0 i_1) fun s_4 =>
  zl_M_name_20 n n s_4 a0 j2 i_1 (0 : Int32)
  else none
  else none
def zl_M_integer_42 (n : Nat) : Nat → zh_S → Nat → Int64 → Int32 → Option zh_S
  | 0, _, _, _, _ => none
  | k + 1, s0, a0, j1, i4 =>
    if i4 < 0 then
      some s0
    else
      if zh_oo s0 a0 8 then
      zk_p (zf_M_add n s0 a0 (((j1 >>> (((8 : Int32) * i4).toInt64 &&& 63)) &&& (255 : Int64)).toInt32)) fun s_1 =>
      zk_l (i4 + (-1 : Int32)) fun i_3 =>
      zl_M_integer_42 n k s_1 a0 j1 i_3
      else none
def zb_M_integer_27 (n : Nat) (s0 : zh_S) (a0 : Nat) (j1 : Int64) (i3 : Int32) : Option zh_S :=
  if zh_oo s0 a0 8 then
  zk_p (zf_M_add n s0 a0 (2 : Int32)) fun s_1 =>
  if zh_oo s_1 a0 8 then
  zk_p (zf_M_add n s_1 a0 i3) fun s_3 =>
  zk_l ((i3 - (1 : Int32))) fun i_5 =>
  zl_M_integer_42 n n s_3 a0 j1 i_5
  else none
  else none
def zl_M_integer_2 (n : Nat) : Nat → zh_S → Nat → Int64 → Int32 → Option zh_S
  | 0, _, _, _, _ => none
  | k + 1, s0, a0, j1, i3 =>
    if (8 : Int32) ≤ i3 then
      zb_M_integer_27 n s0 a0 j1 i3
    else
      if (lg_cmp (j1 >>> ((((8 : Int32) * i3) - (1 : Int32)).toInt64 &&& 63)) (0 : Int64)) = 0 then
        zb_M_integer_27 n s0 a0 j1 i3
      else
        zk_l (i3 + (1 : Int32)) fun i_1 =>
        zl_M_integer_2 n k s0 a0 j1 i_1
def zf_M_integer (n : Nat) (s0 : zh_S) (a0 : Nat) (j1 : Int64) : Option zh_S :=
  zl_M_integer_2 n n s0 a0 j1 (1 : Int32)
def zb_M_wrap_103 (n : Nat) (s0 : zh_S) (a0 : Nat) (i4 : Int32) : Option zh_S :=
  if zh_oo s0 a0 8 then
  zk_l (zh_uI s0 a0 1 ((zh_I s0 a0 1) + i4)) fun s_2 =>
  some s_2
  else none
def zb_M_wrap_86 (n : Nat) (s0 : zh_S) (a0 : Nat) (i1 : Int32) (i3 : Int32) (i4 : Int32) (at0 : Nat) (it1 : Int32) (it2 : Int32) : Option zh_S :=
  if zh_oa s0 at0 0 it1 then
  zk_l (zh_uI s0 at0 (it1.toNatClampNeg) it2) fun s_1 =>
  if i3 < (128 : Int32) then
    zb_M_wrap_103 n s_1 a0 i4
  else
    if zh_oo s_1 a0 8 then
    zk_p (zh_R s_1 a0 0) fun a_4 =>
    if zh_oa s_1 a_4 0 (i1 + (2 : Int32)) then
    zk_l (zh_uI s_1 a_4 ((i1 + (2 : Int32)).toNatClampNeg) i3) fun s_6 =>
    zb_M_wrap_103 n s_6 a0 i4
    else none
    else none
  else none
def zl_M_wrap_29 (n : Nat) : Nat → zh_S → Nat → Int32 → Int32 → Int32 → Int32 → Int32 → Option zh_S
  | 0, _, _, _, _, _, _, _ => none
  | k + 1, s0, a0, i1, i2, i3, i4, i5 =>
    if i5 < i1 then
      if zh_oo s0 a0 8 then
      zk_p (zh_R s0 a0 0) fun a_2 =>
      if zh_oa s0 a_2 0 i1 then
      zk_l (zh_uI s0 a_2 (i1.toNatClampNeg) i2) fun s_4 =>
      if zh_oo s_4 a0 8 then
      zk_p (zh_R s_4 a0 0) fun a_7 =>
      if (128 : Int32) ≤ i3 then
        zb_M_wrap_86 n s_4 a0 i1 i3 i4 a_7 (i1 + (1 : Int32)) (129 : Int32)
      else
        zb_M_wrap_86 n s_4 a0 i1 i3 i4 a_7 (i1 + (1 : Int32)) i3
      else none
      else none
      else none
    else
      if zh_oo s0 a0 8 then
      zk_p (zh_R s0 a0 0) fun a_10 =>
      zk_p (zh_R s0 a0 0) fun a_12 =>
      if zh_oa s0 a_12 0 i5 then
      if zh_oa s0 a_10 0 (i5 + i4) then
      zk_l (zh_uI s0 a_10 ((i5 + i4).toNatClampNeg) (zh_I s0 a_12 (i5.toNatClampNeg))) fun s_15 =>
      zk_l (i5 + (-1 : Int32)) fun i_17 =>
      zl_M_wrap_29 n k s_15 a0 i1 i2 i3 i4 i_17
      else none
      else none
      else none
def zb_M_wrap_19 (n : Nat) (s0 : zh_S) (a0 : Nat) (i1 : Int32) (i2 : Int32) (i3 : Int32) (it0 : Int32) : Option zh_S :=
  if zh_oo s0 a0 8 then
  zk_l (((zh_I s0 a0 1) - (1 : Int32))) fun i_2 =>
  zl_M_wrap_29 n n s0 a0 i1 i2 i3 it0 i_2
  else none
def zf_M_wrap (n : Nat) (s0 : zh_S) (a0 : Nat) (i1 : Int32) (i2 : Int32) : Option zh_S :=
  if zh_oo s0 a0 8 then
  zk_l (((zh_I s0 a0 1) - i1)) fun i_2 =>
  if (128 : Int32) ≤ i_2 then
    zb_M_wrap_19 n s0 a0 i1 i2 i_2 (3 : Int32)
  else
    zb_M_wrap_19 n s0 a0 i1 i2 i_2 (2 : Int32)
  else none
def zf_M_signed (n : Nat) (s0 : zh_S) (a0 : Nat) : Option (Int32 × zh_S) :=
  if zh_oo s0 a0 8 then
  zk_p (zf_M_wrap n s0 a0 (0 : Int32) (48 : Int32)) fun s_1 =>
  if zh_oo s_1 a0 8 then
  zk_p (zf_M_hash n s_1 a0 (0 : Int32) (zh_I s_1 a0 1)) fun i_4 =>
  zk_p (zh_R s_1 a0 2) fun a_5 =>
  if zh_oa s_1 a_5 1 (12 : Int32) then
  zk_l ((zh_J s_1 a_5 ((12 : Int32).toNatClampNeg)).toInt32) fun i_8 =>
  zk_p (zf_M_sign n s_1 a0 i_8 i_4) fun j_9 =>
  zk_p (zf_M_integer n s_1 a0 j_9) fun s_10 =>
  if zh_oo s_10 a0 8 then
  zk_p (zf_M_wrap n s_10 a0 (0 : Int32) (48 : Int32)) fun s_11 =>
  if zh_oo s_11 a0 8 then
  some ((zh_I s_11 a0 1), s_11)
  else none
  else none
  else none
  else none
  else none
def zl_M_composeList_44 (n : Nat) : Nat → zh_S → Nat → Int32 → Int32 → Option (Int32 × zh_S)
  | 0, _, _, _, _ => none
  | k + 1, s0, a0, i1, i2 =>
    if zh_oo s0 a0 8 then
    if (zh_I s0 a0 3) ≤ i2 then
      zk_p (zf_M_wrap n s0 a0 i1 (48 : Int32)) fun s_2 =>
      if zh_oo s_2 a0 8 then
      zk_b (zf_M_signed n s_2 a0) fun i_5 s_3 =>
      some (i_5, s_3)
      else none
    else
      zk_l ((zh_I s0 a0 1)) fun i_6 =>
      zk_p (zh_R s0 a0 4) fun a_7 =>
      if zh_oa s0 a_7 1 i2 then
      zk_p (zf_M_integer n s0 a0 (zh_J s0 a_7 (i2.toNatClampNeg))) fun s_10 =>
      if zh_oo s_10 a0 8 then
      zk_p (zh_R s_10 a0 5) fun a_12 =>
      if zh_oa s_10 a_12 1 i2 then
      zk_p (zf_M_integer n s_10 a0 (zh_J s_10 a_12 (i2.toNatClampNeg))) fun s_15 =>
      if zh_oo s_15 a0 8 then
      zk_p (zf_M_wrap n s_15 a0 i_6 (48 : Int32)) fun s_16 =>
      zk_l (i2 + (1 : Int32)) fun i_18 =>
      zl_M_composeList_44 n k s_16 a0 i1 i_18
      else none
      else none
      else none
      else none
    else none
def zf_M_composeList (n : Nat) (s0 : zh_S) (a0 : Nat) : Option (Int32 × zh_S) :=
  if zh_oo s0 a0 8 then
  zk_l (zh_uI s0 a0 1 (0 : Int32)) fun s_1 =>
  zk_p (zh_R s_1 a0 2) fun a_3 =>
  if zh_oa s_1 a_3 1 (1 : Int32) then
  zk_p (zf_M_name n s_1 a0 (19 : Int32) (zh_J s_1 a_3 ((1 : Int32).toNatClampNeg))) fun s_6 =>
  if zh_oo s_6 a0 8 then
  zk_p (zh_R s_6 a0 2) fun a_8 =>
  if zh_oa s_6 a_8 1 (2 : Int32) then
  zk_p (zf_M_integer n s_6 a0 (zh_J s_6 a_8 ((2 : Int32).toNatClampNeg))) fun s_11 =>
  if zh_oo s_11 a0 8 then
  zk_p (zh_R s_11 a0 2) fun a_13 =>
  if zh_oa s_11 a_13 1 (3 : Int32) then
  zk_p (zf_M_integer n s_11 a0 (zh_J s_11 a_13 ((3 : Int32).toNatClampNeg))) fun s_16 =>
  if zh_oo s_16 a0 8 then
  zk_l ((zh_I s_16 a0 1)) fun i_18 =>
  zl_M_composeList_44 n n s_16 a0 i_18 (0 : Int32)
  else none
  else none
  else none
  else none
  else none
  else none
  else none
def zf_Draft_appendTrue (n : Nat) (s0 : zh_S) (a0 : Nat) : Option zh_S :=
  if zh_oo s0 a0 1 then
  zk_b (zf_Draft_append n s0 a0 (1 : Int32)) fun i_3 s_1 =>
  if zh_oo s_1 a0 1 then
  zk_b (zf_Draft_append n s_1 a0 (1 : Int32)) fun i_6 s_4 =>
  if zh_oo s_4 a0 1 then
  zk_b (zf_Draft_append n s_4 a0 (255 : Int32)) fun i_9 s_7 =>
  some s_7
  else none
  else none
  else none
def zb_Tool_writeRealm_73 (n : Nat) (s0 : zh_S) (a1 : Nat) (i2 : Int32) (i3 : Int32) : Option zh_S :=
  if zh_oo s0 a1 1 then
  zk_p (zf_Draft_wrap n s0 a1 i3 (48 : Int32)) fun s_1 =>
  if zh_oo s_1 a1 1 then
  zk_p (zf_Draft_wrap n s_1 a1 i2 (48 : Int32)) fun s_3 =>
  some s_3
  else none
  else none
def zb_Tool_writeRealm_47 (n : Nat) (s0 : zh_S) (a0 : Nat) (a1 : Nat) (i2 : Int32) (i3 : Int32) : Option zh_S :=
  if zh_oo s0 a0 6 then
  zk_p (zh_R s0 a0 0) fun a_2 =>
  if zh_oa s0 a_2 1 (10 : Int32) then
  if (lg_cmp (zh_J s0 a_2 ((10 : Int32).toNatClampNeg)) (0 : Int64)) = 0 then
    zb_Tool_writeRealm_73 n s0 a1 i2 i3
  else
    zk_p (zh_R s0 a0 0) fun a_5 =>
    if zh_oa s0 a_5 1 (10 : Int32) then
    if zh_oo s0 a1 1 then
    zk_p (zf_Draft_appendName n s0 a1 (129 : Int32) (zh_J s0 a_5 ((10 : Int32).toNatClampNeg))) fun s_8 =>
    zb_Tool_writeRealm_73 n s_8 a1 i2 i3
    else none
    else none
  else none
  else none
def zf_Tool_writeRealm (n : Nat) (s0 : zh_S) (a0 : Nat) (a1 : Nat) : Option zh_S :=
  if zh_oo s0 a1 1 then
  zk_l ((zh_I s0 a1 1)) fun i_2 =>
  zk_p (zf_Draft_appendInteger n s0 a1 (3 : Int64)) fun s_3 =>
  if zh_oo s_3 a1 1 then
  zk_p (zf_Draft_appendTrue n s_3 a1) fun s_4 =>
  if zh_oo s_4 a1 1 then
  zk_l ((zh_I s_4 a1 1)) fun i_7 =>
  if zh_oo s_4 a0 6 then
  zk_p (zh_R s_4 a0 0) fun a_9 =>
  if zh_oa s_4 a_9 1 (9 : Int32) then
  if (lg_cmp (zh_J s_4 a_9 ((9 : Int32).toNatClampNeg)) (0 : Int64)) = 0 then
    zb_Tool_writeRealm_47 n s_4 a0 a1 i_2 i_7
  else
    zk_p (zh_R s_4 a0 0) fun a_12 =>
    if zh_oa s_4 a_12 1 (9 : Int32) then
    zk_p (zf_Draft_appendName n s_4 a1 (128 : Int32) (zh_J s_4 a_12 ((9 : Int32).toNatClampNeg))) fun s_15 =>
    zb_Tool_writeRealm_47 n s_15 a0 a1 i_2 i_7
    else none
  else none
  else none
  else none
  else none
  else none
def zb_Tool_writeOwnExtension_30 (n : Nat) (s0 : zh_S) (a1 : Nat) (i2 : Int32) : Option zh_S :=
  if zh_oo s0 a1 1 then
  zk_p (zf_Draft_wrap n s0 a1 (zh_I s0 a1 1) (4 : Int32)) fun s_2 =>
  if zh_oo s_2 a1 1 then
  zk_p (zf_Draft_wrap n s_2 a1 i2 (48 : Int32)) fun s_3 =>
  some s_3
  else none
  else none
def zf_Tool_writeOwnExtension (n : Nat) (s0 : zh_S) (a0 : Nat) (a1 : Nat) : Option zh_S :=
  if zh_oo s0 a1 1 then
  zk_l ((zh_I s0 a1 1)) fun i_2 =>
  zk_p (zf_Draft_appendInteger n s0 a1 (9 : Int64)) fun s_3 =>
  if zh_oo s_3 a0 6 then
  zk_p (zh_R s_3 a0 0) fun a_5 =>
  if zh_oa s_3 a_5 1 (11 : Int32) then
  if (lg_cmp (zh_J s_3 a_5 ((11 : Int32).toNatClampNeg)) (2 : Int64)) = 0 then
    if zh_oo s_3 a1 1 then
    zk_p (zf_Draft_appendTrue n s_3 a1) fun s_8 =>
    zb_Tool_writeOwnExtension_30 n s_8 a1 i_2
    else none
  else
    zb_Tool_writeOwnExtension_30 n s_3 a1 i_2
  else none
  else none
  else none
def zf_Tool_writeUsage (n : Nat) (s0 : zh_S) (a0 : Nat) (a1 : Nat) : Option zh_S :=
  if zh_oo s0 a1 1 then
  zk_l ((zh_I s0 a1 1)) fun i_2 =>
  zk_p (zf_Draft_appendInteger n s0 a1 (2 : Int64)) fun s_3 =>
  if zh_oo s_3 a1 1 then
  zk_p (zf_Draft_appendTrue n s_3 a1) fun s_4 =>
  if zh_oo s_4 a0 6 then
  zk_p (zh_R s_4 a0 0) fun a_7 =>
  if zh_oa s_4 a_7 1 (8 : Int32) then
  if zh_oo s_4 a1 1 then
  zk_p (zf_Draft_appendInteger n s_4 a1 (zh_J s_4 a_7 ((8 : Int32).toNatClampNeg))) fun s_10 =>
  if zh_oo s_10 a1 1 then
  zk_p (zf_Draft_wrap n s_10 a1 i_2 (48 : Int32)) fun s_12 =>
  some s_12
  else none
  else none
  else none
  else none
  else none
  else none
def zb_Tool_writeBasic_58 (n : Nat) (s0 : zh_S) (a1 : Nat) (i2 : Int32) (i3 : Int32) : Option zh_S :=
  if zh_oo s0 a1 1 then
  zk_p (zf_Draft_wrap n s0 a1 i3 (48 : Int32)) fun s_1 =>
  if zh_oo s_1 a1 1 then
  zk_p (zf_Draft_wrap n s_1 a1 i2 (48 : Int32)) fun s_3 =>
  some s_3
  else none
  else none
def zf_Tool_writeBasic (n : Nat) (s0 : zh_S) (a0 : Nat) (a1 : Nat) : Option zh_S :=
  if zh_oo s0 a1 1 then
  zk_l ((zh_I s0 a1 1)) fun i_2 =>
  zk_p (zf_Draft_appendInteger n s0 a1 (1 : Int64)) fun s_3 =>
  if zh_oo s_3 a1 1 then
  zk_p (zf_Draft_appendTrue n s_3 a1) fun s_4 =>
  if zh_oo s_4 a1 1 then
  zk_l ((zh_I s_4 a1 1)) fun i_7 =>
  if zh_oo s_4 a0 6 then
  zk_p (zh_R s_4 a0 0) fun a_9 =>
  if zh_oa s_4 a_9 1 (6 : Int32) then
  if (lg_cmp (zh_J s_4 a_9 ((6 : Int32).toNatClampNeg)) (1 : Int64)) = 0 then
    zk_p (zf_Draft_appendTrue n s_4 a1) fun s_12 =>
    if zh_oo s_12 a0 6 then
    zk_p (zh_R s_12 a0 0) fun a_14 =>
    if zh_oa s_12 a_14 1 (7 : Int32) then
    if (lg_cmp (zh_J s_12 a_14 ((7 : Int32).toNatClampNeg)) (0 : Int64)) < 0 then
      zb_Tool_writeBasic_58 n s_12 a1 i_2 i_7
    else
      zk_p (zh_R s_12 a0 0) fun a_17 =>
      if zh_oa s_12 a_17 1 (7 : Int32) then
      if zh_oo s_12 a1 1 then
      zk_p (zf_Draft_appendInteger n s_12 a1 (zh_J s_12 a_17 ((7 : Int32).toNatClampNeg))) fun s_20 =>
      zb_Tool_writeBasic_58 n s_20 a1 i_2 i_7
      else none
      else none
    else none
    else none
  else
    zb_Tool_writeBasic_58 n s_4 a1 i_2 i_7
  else none
  else none
  else none
  else none
  else none
def zb_Tool_writeExtensions_85 (n : Nat) (s0 : zh_S) (a1 : Nat) (i2 : Int32) : Option zh_S :=
  if zh_oo s0 a1 1 then
  if (zh_I s0 a1 1) ≤ i2 then
    some s0
  else
    zk_p (zf_Draft_wrap n s0 a1 i2 (48 : Int32)) fun s_2 =>
    some s_2
  else none
def zb_Tool_writeExtensions_68 (n : Nat) (s0 : zh_S) (a0 : Nat) (a1 : Nat) (i2 : Int32) : Option zh_S :=
  if zh_oo s0 a0 6 then
  zk_p (zh_R s0 a0 0) fun a_2 =>
  if zh_oa s0 a_2 1 (11 : Int32) then
  if (lg_cmp (zh_J s0 a_2 ((11 : Int32).toNatClampNeg)) (0 : Int64)) ≤ 0 then
    zb_Tool_writeExtensions_85 n s0 a1 i2
  else
    zk_p (zf_Tool_writeOwnExtension n s0 a0 a1) fun s_5 =>
    zb_Tool_writeExtensions_85 n s_5 a1 i2
  else none
  else none
def zb_Tool_writeExtensions_63 (n : Nat) (s0 : zh_S) (a0 : Nat) (a1 : Nat) (i2 : Int32) : Option zh_S :=
  if zh_oo s0 a0 6 then
  zk_p (zf_Tool_writeRealm n s0 a0 a1) fun s_1 =>
  zb_Tool_writeExtensions_68 n s_1 a0 a1 i2
  else none
def zb_Tool_writeExtensions_39 (n : Nat) (s0 : zh_S) (a0 : Nat) (a1 : Nat) (i2 : Int32) : Option zh_S :=
  if zh_oo s0 a0 6 then
  zk_p (zh_R s0 a0 0) fun a_2 =>
  if zh_oa s0 a_2 1 (9 : Int32) then
  if (lg_cmp (zh_J s0 a_2 ((9 : Int32).toNatClampNeg)) (0 : Int64)) = 0 then
    zk_p (zh_R s0 a0 0) fun a_5 =>
    if zh_oa s0 a_5 1 (10 : Int32) then
    if (lg_cmp (zh_J s0 a_5 ((10 : Int32).toNatClampNeg)) (0 : Int64)) = 0 then
      zb_Tool_writeExtensions_68 n s0 a0 a1 i2
    else
      zb_Tool_writeExtensions_63 n s0 a0 a1 i2
    else none
  else
    zb_Tool_writeExtensions_63 n s0 a0 a1 i2
  else none
  else none
def zb_Tool_writeExtensions_22 (n : Nat) (s0 : zh_S) (a0 : Nat) (a1 : Nat) (i2 : Int32) : Option zh_S :=
  if zh_oo s0 a0 6 then
  zk_p (zh_R s0 a0 0) fun a_2 =>
  if zh_oa s0 a_2 1 (8 : Int32) then
  if (lg_cmp (zh_J s0 a_2 ((8 : Int32).toNatClampNeg)) (0 : Int64)) < 0 then
    zb_Tool_writeExtensions_39 n s0 a0 a1 i2
  else
    zk_p (zf_Tool_writeUsage n s0 a0 a1) fun s_5 =>
    zb_Tool_writeExtensions_39 n s_5 a0 a1 i2
  else none
  else none
def zf_Tool_writeExtensions (n : Nat) (s0 : zh_S) (a0 : Nat) (a1 : Nat) : Option zh_S :=
  if zh_oo s0 a1 1 then
  zk_l ((zh_I s0 a1 1)) fun i_2 =>
  if zh_oo s0 a0 6 then
  zk_p (zh_R s0 a0 0) fun a_4 =>
  if zh_oa s0 a_4 1 (6 : Int32) then
  if (lg_cmp (zh_J s0 a_4 ((6 : Int32).toNatClampNeg)) (0 : Int64)) < 0 then
    zb_Tool_writeExtensions_22 n s0 a0 a1 i_2
  else
    zk_p (zf_Tool_writeBasic n s0 a0 a1) fun s_7 =>
    zb_Tool_writeExtensions_22 n s_7 a0 a1 i_2
  else none
  else none
  else none
def zf_Tool_writeCertificate (n : Nat) (s0 : zh_S) (a0 : Nat) (a1 : Nat) : Option (Int32 × zh_S) :=
  if zh_oo s0 a0 6 then
  zk_p (zh_R s0 a0 0) fun a_2 =>
  if zh_oa s0 a_2 1 (5 : Int32) then
  zk_l ((zh_J s0 a_2 ((5 : Int32).toNatClampNeg)).toInt32) fun i_5 =>
  if zh_oo s0 a1 1 then
  zk_p (zf_Draft_empty n s0 a1) fun s_6 =>
  if zh_oo s_6 a0 6 then
  zk_p (zh_R s_6 a0 0) fun a_9 =>
  if zh_oa s_6 a_9 1 (0 : Int32) then
  if zh_oo s_6 a1 1 then
  zk_p (zf_Draft_appendInteger n s_6 a1 (zh_J s_6 a_9 ((0 : Int32).toNatClampNeg))) fun s_12 =>
  if zh_oo s_12 a0 6 then
  zk_p (zh_R s_12 a0 0) fun a_15 =>
  if zh_oa s_12 a_15 1 (1 : Int32) then
  if zh_oo s_12 a1 1 then
  zk_p (zf_Draft_appendName n s_12 a1 (19 : Int32) (zh_J s_12 a_15 ((1 : Int32).toNatClampNeg))) fun s_18 =>
  if zh_oo s_18 a0 6 then
  zk_p (zh_R s_18 a0 0) fun a_21 =>
  if zh_oa s_18 a_21 1 (2 : Int32) then
  if zh_oo s_18 a1 1 then
  zk_p (zf_Draft_appendInteger n s_18 a1 (zh_J s_18 a_21 ((2 : Int32).toNatClampNeg))) fun s_24 =>
  if zh_oo s_24 a0 6 then
  zk_p (zh_R s_24 a0 0) fun a_27 =>
  if zh_oa s_24 a_27 1 (3 : Int32) then
  if zh_oo s_24 a1 1 then
  zk_p (zf_Draft_appendInteger n s_24 a1 (zh_J s_24 a_27 ((3 : Int32).toNatClampNeg))) fun s_30 =>
  if zh_oo s_30 a0 6 then
  zk_p (zh_R s_30 a0 0) fun a_33 =>
  if zh_oa s_30 a_33 1 (4 : Int32) then
  if zh_oo s_30 a1 1 then
  zk_p (zf_Draft_appendName n s_30 a1 (19 : Int32) (zh_J s_30 a_33 ((4 : Int32).toNatClampNeg))) fun s_36 =>
  if ¬ i_5 < 0 ∧ i_5.toNatClampNeg < 6 then
  if zh_oo s_36 a1 1 then
  zk_p (zf_Draft_appendInteger n s_36 a1 (zt_MODULI i_5.toNatClampNeg)) fun s_39 =>
  if ¬ i_5 < 0 ∧ i_5.toNatClampNeg < 6 then
  if zh_oo s_39 a1 1 then
  zk_p (zf_Draft_appendInteger n s_39 a1 (zt_EXPONENTS i_5.toNatClampNeg)) fun s_42 =>
  if zh_oo s_42 a0 6 then
  zk_p (zf_Tool_writeExtensions n s_42 a0 a1) fun s_44 =>
  if zh_oo s_44 a0 6 then
  zk_b (zf_Tool_finish n s_44 a0 a1) fun i_48 s_46 =>
  some (i_48, s_46)
  else none
  else none
  else none
  else none
  else none
  else none
  else none
  else none
  else none
  else none
  else none
  else none
  else none
  else none
  else none
  else none
  else none
  else none
  else none
  else none
  else none
  else none
  else none
  else none
def zf_V_compose (n : Nat) (s0 : zh_S) (a0 : Nat) : Option (Int32 × zh_S) :=
  if zh_oo s0 a0 7 then
  zk_p (zh_R s0 a0 1) fun a_2 =>
  zk_p (zh_R s0 a0 0) fun a_4 =>
  if zh_oo s0 a_2 6 then
  zk_b (zf_Tool_writeCertificate n s0 a_2 a_4) fun i_8 s_6 =>
  some (i_8, s_6)
  else none
  else none
def zf_M_yes (n : Nat) (s0 : zh_S) (a0 : Nat) : Option zh_S :=
  if zh_oo s0 a0 8 then
  zk_p (zf_M_add n s0 a0 (1 : Int32)) fun s_1 =>
  if zh_oo s_1 a0 8 then
  zk_p (zf_M_add n s_1 a0 (1 : Int32)) fun s_3 =>
  if zh_oo s_3 a0 8 then
  zk_p (zf_M_add n s_3 a0 (255 : Int32)) fun s_5 =>
  some s_5
  else none
  else none
  else none
def zf_M_open (n : Nat) (s0 : zh_S) (a0 : Nat) (i1 : Int32) (i2 : Int32) : Option (Int32 × zh_S) :=
  if zh_oo s0 a0 8 then
  zk_l ((zh_I s0 a0 1)) fun i_2 =>
  zk_p (zf_M_integer n s0 a0 (i1.toInt64)) fun s_3 =>
  if i2 = 0 then
    some (i_2, s_3)
  else
    if zh_oo s_3 a0 8 then
    zk_p (zf_M_yes n s_3 a0) fun s_4 =>
    some (i_2, s_4)
    else none
  else none
def zb_M_extensions_288 (n : Nat) (s0 : zh_S) (a0 : Nat) (i1 : Int32) : Option zh_S :=
  if zh_oo s0 a0 8 then
  if (zh_I s0 a0 1) ≤ i1 then
    some s0
  else
    zk_p (zf_M_wrap n s0 a0 i1 (48 : Int32)) fun s_2 =>
    some s_2
  else none
def zb_M_extensions_267 (n : Nat) (s0 : zh_S) (a0 : Nat) (i1 : Int32) (at0 : Nat) (it1 : Int32) (it2 : Int32) : Option zh_S :=
  if zh_oo s0 at0 8 then
  zk_b (zf_M_open n s0 at0 it1 it2) fun i_3 s_1 =>
  if zh_oo s_1 a0 8 then
  zk_p (zf_M_add n s_1 a0 (4 : Int32)) fun s_4 =>
  if zh_oo s_4 a0 8 then
  zk_p (zf_M_add n s_4 a0 (0 : Int32)) fun s_6 =>
  if zh_oo s_6 a0 8 then
  zk_p (zf_M_wrap n s_6 a0 i_3 (48 : Int32)) fun s_8 =>
  zb_M_extensions_288 n s_8 a0 i1
  else none
  else none
  else none
  else none
def zb_M_extensions_233 (n : Nat) (s0 : zh_S) (a0 : Nat) (i1 : Int32) : Option zh_S :=
  if zh_oo s0 a0 8 then
  zk_p (zh_R s0 a0 2) fun a_2 =>
  if zh_oa s0 a_2 1 (11 : Int32) then
  if (lg_cmp (zh_J s0 a_2 ((11 : Int32).toNatClampNeg)) (0 : Int64)) ≤ 0 then
    zb_M_extensions_288 n s0 a0 i1
  else
    zk_p (zh_R s0 a0 2) fun a_5 =>
    if zh_oa s0 a_5 1 (11 : Int32) then
    if (lg_cmp (zh_J s0 a_5 ((11 : Int32).toNatClampNeg)) (2 : Int64)) = 0 then
      zb_M_extensions_267 n s0 a0 i1 a0 (9 : Int32) (1 : Int32)
    else
      zb_M_extensions_267 n s0 a0 i1 a0 (9 : Int32) (0 : Int32)
    else none
  else none
  else none
def zb_M_extensions_219 (n : Nat) (s0 : zh_S) (a0 : Nat) (i1 : Int32) (i2 : Int32) (i3 : Int32) : Option zh_S :=
  if zh_oo s0 a0 8 then
  zk_p (zf_M_wrap n s0 a0 i3 (48 : Int32)) fun s_1 =>
  if zh_oo s_1 a0 8 then
  zk_p (zf_M_wrap n s_1 a0 i2 (48 : Int32)) fun s_3 =>
  zb_M_extensions_233 n s_3 a0 i1
  else none
  else none
def zb_M_extensions_193 (n : Nat) (s0 : zh_S) (a0 : Nat) (i1 : Int32) (i2 : Int32) (i3 : Int32) : Option zh_S :=
  if zh_oo s0 a0 8 then
  zk_p (zh_R s0 a0 2) fun a_2 =>
  if zh_oa s0 a_2 1 (10 : Int32) then
  if (lg_cmp (zh_J s0 a_2 ((10 : Int32).toNatClampNeg)) (0 : Int64)) = 0 then
    zb_M_extensions_219 n s0 a0 i1 i2 i3
  else
    zk_p (zh_R s0 a0 2) fun a_5 =>
    if zh_oa s0 a_5 1 (10 : Int32) then
    zk_p (zf_M_name n s0 a0 (129 : Int32) (zh_J s0 a_5 ((10 : Int32).toNatClampNeg))) fun s_8 =>
    zb_M_extensions_219 n s_8 a0 i1 i2 i3
    else none
  else none
  else none
def zb_M_extensions_155 (n : Nat) (s0 : zh_S) (a0 : Nat) (i1 : Int32) : Option zh_S :=
  if zh_oo s0 a0 8 then
  zk_b (zf_M_open n s0 a0 (3 : Int32) (1 : Int32)) fun i_3 s_1 =>
  if zh_oo s_1 a0 8 then
  zk_l ((zh_I s_1 a0 1)) fun i_5 =>
  zk_p (zh_R s_1 a0 2) fun a_6 =>
  if zh_oa s_1 a_6 1 (9 : Int32) then
  if (lg_cmp (zh_J s_1 a_6 ((9 : Int32).toNatClampNeg)) (0 : Int64)) = 0 then
    zb_M_extensions_193 n s_1 a0 i1 i_3 i_5
  else
    zk_p (zh_R s_1 a0 2) fun a_9 =>
    if zh_oa s_1 a_9 1 (9 : Int32) then
    zk_p (zf_M_name n s_1 a0 (128 : Int32) (zh_J s_1 a_9 ((9 : Int32).toNatClampNeg))) fun s_12 =>
    zb_M_extensions_193 n s_12 a0 i1 i_3 i_5
    else none
  else none
  else none
  else none
def zb_M_extensions_131 (n : Nat) (s0 : zh_S) (a0 : Nat) (i1 : Int32) : Option zh_S :=
  if zh_oo s0 a0 8 then
  zk_p (zh_R s0 a0 2) fun a_2 =>
  if zh_oa s0 a_2 1 (9 : Int32) then
  if (lg_cmp (zh_J s0 a_2 ((9 : Int32).toNatClampNeg)) (0 : Int64)) = 0 then
    zk_p (zh_R s0 a0 2) fun a_5 =>
    if zh_oa s0 a_5 1 (10 : Int32) then
    if (lg_cmp (zh_J s0 a_5 ((10 : Int32).toNatClampNeg)) (0 : Int64)) = 0 then
      zb_M_extensions_233 n s0 a0 i1
    else
      zb_M_extensions_155 n s0 a0 i1
    else none
  else
    zb_M_extensions_155 n s0 a0 i1
  else none
  else none
def zb_M_extensions_94 (n : Nat) (s0 : zh_S) (a0 : Nat) (i1 : Int32) : Option zh_S :=
  if zh_oo s0 a0 8 then
  zk_p (zh_R s0 a0 2) fun a_2 =>
  if zh_oa s0 a_2 1 (8 : Int32) then
  if (lg_cmp (zh_J s0 a_2 ((8 : Int32).toNatClampNeg)) (0 : Int64)) ≤ 0 then
    zb_M_extensions_131 n s0 a0 i1
  else
    zk_b (zf_M_open n s0 a0 (2 : Int32) (1 : Int32)) fun i_6 s_5 =>
    if zh_oo s_5 a0 8 then
    zk_p (zh_R s_5 a0 2) fun a_8 =>
    if zh_oa s_5 a_8 1 (8 : Int32) then
    zk_p (zf_M_integer n s_5 a0 (zh_J s_5 a_8 ((8 : Int32).toNatClampNeg))) fun s_11 =>
    if zh_oo s_11 a0 8 then
    zk_p (zf_M_wrap n s_11 a0 i_6 (48 : Int32)) fun s_12 =>
    zb_M_extensions_131 n s_12 a0 i1
    else none
    else none
    else none
  else none
  else none
def zb_M_extensions_80 (n : Nat) (s0 : zh_S) (a0 : Nat) (i1 : Int32) (i2 : Int32) (i3 : Int32) : Option zh_S :=
  if zh_oo s0 a0 8 then
  zk_p (zf_M_wrap n s0 a0 i3 (48 : Int32)) fun s_1 =>
  if zh_oo s_1 a0 8 then
  zk_p (zf_M_wrap n s_1 a0 i2 (48 : Int32)) fun s_3 =>
  zb_M_extensions_94 n s_3 a0 i1
  else none
  else none
def zb_M_extensions_45 (n : Nat) (s0 : zh_S) (a0 : Nat) (i1 : Int32) (i2 : Int32) (i3 : Int32) : Option zh_S :=
  if zh_oo s0 a0 8 then
  zk_p (zh_R s0 a0 2) fun a_2 =>
  if zh_oa s0 a_2 1 (6 : Int32) then
  if (lg_cmp (zh_J s0 a_2 ((6 : Int32).toNatClampNeg)) (1 : Int64)) = 0 then
    zk_p (zh_R s0 a0 2) fun a_5 =>
    if zh_oa s0 a_5 1 (7 : Int32) then
    if (lg_cmp (zh_J s0 a_5 ((7 : Int32).toNatClampNeg)) (0 : Int64)) < 0 then
      zb_M_extensions_80 n s0 a0 i1 i2 i3
    else
      zk_p (zh_R s0 a0 2) fun a_8 =>
      if zh_oa s0 a_8 1 (7 : Int32) then
      zk_p (zf_M_integer n s0 a0 (zh_J s0 a_8 ((7 : Int32).toNatClampNeg))) fun s_11 =>
      zb_M_extensions_80 n s_11 a0 i1 i2 i3
      else none
    else none
  else
    zb_M_extensions_80 n s0 a0 i1 i2 i3
  else none
  else none
def zf_M_extensions (n : Nat) (s0 : zh_S) (a0 : Nat) : Option zh_S :=
  if zh_oo s0 a0 8 then
  zk_l ((zh_I s0 a0 1)) fun i_2 =>
  zk_p (zh_R s0 a0 2) fun a_3 =>
  if zh_oa s0 a_3 1 (6 : Int32) then
  if (lg_cmp (zh_J s0 a_3 ((6 : Int32).toNatClampNeg)) (0 : Int64)) < 0 then
    zb_M_extensions_94 n s0 a0 i_2
  else
    zk_b (zf_M_open n s0 a0 (1 : Int32) (1 : Int32)) fun i_7 s_6 =>
    if zh_oo s_6 a0 8 then
    zk_l ((zh_I s_6 a0 1)) fun i_9 =>
    zk_p (zh_R s_6 a0 2) fun a_10 =>
    if zh_oa s_6 a_10 1 (6 : Int32) then
    if (lg_cmp (zh_J s_6 a_10 ((6 : Int32).toNatClampNeg)) (1 : Int64)) = 0 then
      zk_p (zf_M_yes n s_6 a0) fun s_13 =>
      zb_M_extensions_45 n s_13 a0 i_2 i_7 i_9
    else
      zb_M_extensions_45 n s_6 a0 i_2 i_7 i_9
    else none
    else none
  else none
  else none
def zf_M_compose (n : Nat) (s0 : zh_S) (a0 : Nat) : Option (Int32 × zh_S) :=
  if zh_oo s0 a0 8 then
  zk_l (zh_uI s0 a0 1 (0 : Int32)) fun s_1 =>
  zk_p (zh_R s_1 a0 2) fun a_3 =>
  if zh_oa s_1 a_3 1 (0 : Int32) then
  zk_p (zf_M_integer n s_1 a0 (zh_J s_1 a_3 ((0 : Int32).toNatClampNeg))) fun s_6 =>
  if zh_oo s_6 a0 8 then
  zk_p (zh_R s_6 a0 2) fun a_8 =>
  if zh_oa s_6 a_8 1 (1 : Int32) then
  zk_p (zf_M_name n s_6 a0 (19 : Int32) (zh_J s_6 a_8 ((1 : Int32).toNatClampNeg))) fun s_11 =>
  if zh_oo s_11 a0 8 then
  zk_p (zh_R s_11 a0 2) fun a_13 =>
  if zh_oa s_11 a_13 1 (2 : Int32) then
  zk_p (zf_M_integer n s_11 a0 (zh_J s_11 a_13 ((2 : Int32).toNatClampNeg))) fun s_16 =>
  if zh_oo s_16 a0 8 then
  zk_p (zh_R s_16 a0 2) fun a_18 =>
  if zh_oa s_16 a_18 1 (3 : Int32) then
  zk_p (zf_M_integer n s_16 a0 (zh_J s_16 a_18 ((3 : Int32).toNatClampNeg))) fun s_21 =>
  if zh_oo s_21 a0 8 then
  zk_p (zh_R s_21 a0 2) fun a_23 =>
  if zh_oa s_21 a_23 1 (4 : Int32) then
  zk_p (zf_M_name n s_21 a0 (19 : Int32) (zh_J s_21 a_23 ((4 : Int32).toNatClampNeg))) fun s_26 =>
  if zh_oo s_26 a0 8 then
  zk_p (zh_R s_26 a0 6) fun a_28 =>
  zk_p (zh_R s_26 a0 2) fun a_30 =>
  if zh_oa s_26 a_30 1 (5 : Int32) then
  if zh_oa s_26 a_28 1 ((zh_J s_26 a_30 ((5 : Int32).toNatClampNeg)).toInt32) then
  zk_p (zf_M_integer n s_26 a0 (zh_J s_26 a_28 (((zh_J s_26 a_30 ((5 : Int32).toNatClampNeg)).toInt32).toNatClampNeg))) fun s_34 =>
  if zh_oo s_34 a0 8 then
  zk_p (zh_R s_34 a0 7) fun a_36 =>
  zk_p (zh_R s_34 a0 2) fun a_38 =>
  if zh_oa s_34 a_38 1 (5 : Int32) then
  if zh_oa s_34 a_36 1 ((zh_J s_34 a_38 ((5 : Int32).toNatClampNeg)).toInt32) then
  zk_p (zf_M_integer n s_34 a0 (zh_J s_34 a_36 (((zh_J s_34 a_38 ((5 : Int32).toNatClampNeg)).toInt32).toNatClampNeg))) fun s_42 =>
  if zh_oo s_42 a0 8 then
  zk_p (zf_M_extensions n s_42 a0) fun s_43 =>
  if zh_oo s_43 a0 8 then
  zk_b (zf_M_signed n s_43 a0) fun i_47 s_45 =>
  some (i_47, s_45)
  else none
  else none
  else none
  else none
  else none
  else none
  else none
  else none
  else none
  else none
  else none
  else none
  else none
  else none
  else none
  else none
  else none
  else none
def zf_Tool_dropRevoked (n : Nat) (s0 : zh_S) (a0 : Nat) : Option zh_S :=
  if zh_oo s0 a0 6 then
  zk_l (zh_uI s0 a0 3 (0 : Int32)) fun s_1 =>
  some s_1
  else none
def zf_V_forgive (n : Nat) (s0 : zh_S) (a0 : Nat) : Option zh_S :=
  if zh_oo s0 a0 7 then
  zk_p (zh_R s0 a0 1) fun a_2 =>
  if zh_oo s0 a_2 6 then
  zk_p (zf_Tool_dropRevoked n s0 a_2) fun s_4 =>
  some s_4
  else none
  else none
def zf_M_forgive (n : Nat) (s0 : zh_S) (a0 : Nat) : Option zh_S :=
  if zh_oo s0 a0 8 then
  zk_l (zh_uI s0 a0 3 (0 : Int32)) fun s_1 =>
  some s_1
  else none
def zf_Tool_addRevoked (n : Nat) (s0 : zh_S) (a0 : Nat) (j1 : Int64) (j3 : Int64) : Option (Int32 × zh_S) :=
  if (lg_cmp j1 (0 : Int64)) < 0 then
    some ((0 : Int32), s0)
  else
    if (lg_cmp j3 (0 : Int64)) < 0 then
      some ((0 : Int32), s0)
    else
      if zh_oo s0 a0 6 then
      if (zh_I s0 a0 3) < (4 : Int32) then
        zk_p (zh_R s0 a0 1) fun a_2 =>
        if zh_oa s0 a_2 1 (zh_I s0 a0 3) then
        zk_l (zh_uJ s0 a_2 ((zh_I s0 a0 3).toNatClampNeg) j1) fun s_4 =>
        if zh_oo s_4 a0 6 then
        zk_p (zh_R s_4 a0 2) fun a_7 =>
        if zh_oa s_4 a_7 1 (zh_I s_4 a0 3) then
        zk_l (zh_uJ s_4 a_7 ((zh_I s_4 a0 3).toNatClampNeg) j3) fun s_9 =>
        if zh_oo s_9 a0 6 then
        zk_l (zh_uI s_9 a0 3 ((zh_I s_9 a0 3) + (1 : Int32))) fun s_12 =>
        some ((1 : Int32), s_12)
        else none
        else none
        else none
        else none
      else
        some ((0 : Int32), s0)
      else none
def zf_V_revoke (n : Nat) (s0 : zh_S) (a0 : Nat) (j1 : Int64) (j3 : Int64) : Option (Int32 × zh_S) :=
  if zh_oo s0 a0 7 then
  zk_p (zh_R s0 a0 1) fun a_2 =>
  if zh_oo s0 a_2 6 then
  zk_b (zf_Tool_addRevoked n s0 a_2 j1 j3) fun i_6 s_4 =>
  if i_6 = 0 ∨ i_6 = 1 then
  some (i_6, s_4)
  else none
  else none
  else none
def zf_M_revoke (n : Nat) (s0 : zh_S) (a0 : Nat) (j1 : Int64) (j3 : Int64) : Option (Int32 × zh_S) :=
  if (lg_cmp j1 (0 : Int64)) < 0 then
    some ((0 : Int32), s0)
  else
    if (lg_cmp j3 (0 : Int64)) < 0 then
      some ((0 : Int32), s0)
    else
      if zh_oo s0 a0 8 then
      if (zh_I s0 a0 3) = (4 : Int32) then
        some ((0 : Int32), s0)
      else
        zk_p (zh_R s0 a0 4) fun a_2 =>
        if zh_oa s0 a_2 1 (zh_I s0 a0 3) then
        zk_l (zh_uJ s0 a_2 ((zh_I s0 a0 3).toNatClampNeg) j1) fun s_4 =>
        if zh_oo s_4 a0 8 then
        zk_p (zh_R s_4 a0 5) fun a_7 =>
        if zh_oa s_4 a_7 1 (zh_I s_4 a0 3) then
        zk_l (zh_uJ s_4 a_7 ((zh_I s_4 a0 3).toNatClampNeg) j3) fun s_9 =>
        if zh_oo s_9 a0 8 then
        zk_l (zh_uI s_9 a0 3 ((zh_I s_9 a0 3) + (1 : Int32))) fun s_12 =>
        some ((1 : Int32), s_12)
        else none
        else none
        else none
        else none
      else none
def zf_Tool_isAllowed (n : Nat) (i0 : Int32) (j1 : Int64) : Option Int32 :=
  if i0 = 0 then
    if (lg_cmp j1 (0 : Int64)) < 0 then
      some (0 : Int32)
    else
      some (1 : Int32)
  else
  if i0 = 1 then
    zk_p (zf_Names_isName n j1) fun i_1 =>
    if i_1 = 0 ∨ i_1 = 1 then
    some i_1
    else none
  else
  if i0 = 2 then
    if (lg_cmp j1 (0 : Int64)) < 0 then
      some (0 : Int32)
    else
      some (1 : Int32)
  else
  if i0 = 3 then
    if (lg_cmp j1 (0 : Int64)) < 0 then
      some (0 : Int32)
    else
      some (1 : Int32)
  else
  if i0 = 4 then
    zk_p (zf_Names_isName n j1) fun i_3 =>
    if i_3 = 0 ∨ i_3 = 1 then
    some i_3
    else none
  else
  if i0 = 5 then
    zk_p (zf_Numbers_isKey n j1) fun i_5 =>
    if i_5 = 0 ∨ i_5 = 1 then
    some i_5
    else none
  else
  if i0 = 6 then
    if (lg_cmp j1 (-1 : Int64)) < 0 then
      some (0 : Int32)
    else
      if 0 < (lg_cmp j1 (1 : Int64)) then
        some (0 : Int32)
      else
        some (1 : Int32)
  else
  if i0 = 7 then
    if (lg_cmp j1 (-1 : Int64)) < 0 then
      some (0 : Int32)
    else
      if 0 < (lg_cmp j1 (9 : Int64)) then
        some (0 : Int32)
      else
        some (1 : Int32)
  else
  if i0 = 8 then
    if (lg_cmp j1 (-1 : Int64)) = 0 then
      some (1 : Int32)
    else
      if (lg_cmp j1 (1 : Int64)) < 0 then
        some (0 : Int32)
      else
        if 0 < (lg_cmp j1 (7 : Int64)) then
          some (0 : Int32)
        else
          some (1 : Int32)
  else
  if i0 = 9 then
    if (lg_cmp j1 (0 : Int64)) = 0 then
      some (1 : Int32)
    else
      zk_p (zf_Names_isName n j1) fun i_7 =>
      if i_7 = 0 then
        some (0 : Int32)
      else
        some (1 : Int32)
  else
  if i0 = 10 then
    if (lg_cmp j1 (0 : Int64)) = 0 then
      some (1 : Int32)
    else
      zk_p (zf_Names_isName n j1) fun i_8 =>
      if i_8 = 0 then
        some (0 : Int32)
      else
        some (1 : Int32)
  else
  if i0 = 11 then
    if (lg_cmp j1 (0 : Int64)) < 0 then
      some (0 : Int32)
    else
      if 0 < (lg_cmp j1 (2 : Int64)) then
        some (0 : Int32)
      else
        some (1 : Int32)
  else
  if i0 = 12 then
    zk_p (zf_Numbers_isKey n j1) fun i_9 =>
    if i_9 = 0 ∨ i_9 = 1 then
    some i_9
    else none
  else
    some (0 : Int32)
def zf_Tool_accept (n : Nat) (s0 : zh_S) (a0 : Nat) (i1 : Int32) (j2 : Int64) : Option (Int32 × zh_S) :=
  zk_p (zf_Tool_isAllowed n i1 j2) fun i_1 =>
  if i_1 = 0 then
    some ((0 : Int32), s0)
  else
    if zh_oo s0 a0 6 then
    zk_p (zh_R s0 a0 0) fun a_3 =>
    if zh_oa s0 a_3 1 i1 then
    zk_l (zh_uJ s0 a_3 (i1.toNatClampNeg) j2) fun s_5 =>
    some ((1 : Int32), s_5)
    else none
    else none
def zf_V_set (n : Nat) (s0 : zh_S) (a0 : Nat) (i1 : Int32) (j2 : Int64) : Option (Int32 × zh_S) :=
  if zh_oo s0 a0 7 then
  zk_p (zh_R s0 a0 1) fun a_2 =>
  if zh_oo s0 a_2 6 then
  zk_b (zf_Tool_accept n s0 a_2 i1 j2) fun i_6 s_4 =>
  if i_6 = 0 ∨ i_6 = 1 then
  some (i_6, s_4)
  else none
  else none
  else none
def zb_M_set_201 (n : Nat) (s0 : zh_S) (a0 : Nat) (i1 : Int32) (j2 : Int64) (i4 : Int32) : Option (Int32 × zh_S) :=
  if i4 = 0 then
    if i4 = 0 ∨ i4 = 1 then
    some (i4, s0)
    else none
  else
    if zh_oo s0 a0 8 then
    zk_p (zh_R s0 a0 2) fun a_3 =>
    if zh_oa s0 a_3 1 i1 then
    zk_l (zh_uJ s0 a_3 (i1.toNatClampNeg) j2) fun s_5 =>
    if i4 = 0 ∨ i4 = 1 then
    some (i4, s_5)
    else none
    else none
    else none
def zb_M_set_181 (n : Nat) (s0 : zh_S) (a0 : Nat) (i1 : Int32) (j2 : Int64) (it0 : Int32) : Option (Int32 × zh_S) :=
  zb_M_set_201 n s0 a0 i1 j2 it0
def zb_M_set_176 (n : Nat) (s0 : zh_S) (a0 : Nat) (i1 : Int32) (j2 : Int64) : Option (Int32 × zh_S) :=
  zb_M_set_181 n s0 a0 i1 j2 (1 : Int32)
def zb_M_set_158 (n : Nat) (s0 : zh_S) (a0 : Nat) (i1 : Int32) (j2 : Int64) (it0 : Int32) : Option (Int32 × zh_S) :=
  zb_M_set_201 n s0 a0 i1 j2 it0
def zb_M_set_153 (n : Nat) (s0 : zh_S) (a0 : Nat) (i1 : Int32) (j2 : Int64) : Option (Int32 × zh_S) :=
  zb_M_set_158 n s0 a0 i1 j2 (1 : Int32)
def zb_M_set_79 (n : Nat) (s0 : zh_S) (a0 : Nat) (i1 : Int32) (j2 : Int64) (it0 : Int32) : Option (Int32 × zh_S) :=
  zb_M_set_201 n s0 a0 i1 j2 it0
def zf_M_set (n : Nat) (s0 : zh_S) (a0 : Nat) (i1 : Int32) (j2 : Int64) : Option (Int32 × zh_S) :=
  if i1 = 0 then
    if (lg_cmp j2 (0 : Int64)) < 0 then
      zb_M_set_79 n s0 a0 i1 j2 (0 : Int32)
    else
      zb_M_set_79 n s0 a0 i1 j2 (1 : Int32)
  else
  if i1 = 1 then
    zk_p (zf_M_isName n j2) fun i_1 =>
    zb_M_set_201 n s0 a0 i1 j2 i_1
  else
  if i1 = 2 then
    if (lg_cmp j2 (0 : Int64)) < 0 then
      zb_M_set_79 n s0 a0 i1 j2 (0 : Int32)
    else
      zb_M_set_79 n s0 a0 i1 j2 (1 : Int32)
  else
  if i1 = 3 then
    if (lg_cmp j2 (0 : Int64)) < 0 then
      zb_M_set_79 n s0 a0 i1 j2 (0 : Int32)
    else
      zb_M_set_79 n s0 a0 i1 j2 (1 : Int32)
  else
  if i1 = 4 then
    zk_p (zf_M_isName n j2) fun i_2 =>
    zb_M_set_201 n s0 a0 i1 j2 i_2
  else
  if i1 = 5 then
    zk_p (zf_M_in n j2 (0 : Int64) (5 : Int64)) fun i_3 =>
    zb_M_set_201 n s0 a0 i1 j2 i_3
  else
  if i1 = 6 then
    zk_p (zf_M_in n j2 (-1 : Int64) (1 : Int64)) fun i_4 =>
    zb_M_set_201 n s0 a0 i1 j2 i_4
  else
  if i1 = 7 then
    zk_p (zf_M_in n j2 (-1 : Int64) (9 : Int64)) fun i_5 =>
    zb_M_set_201 n s0 a0 i1 j2 i_5
  else
  if i1 = 8 then
    if (lg_cmp j2 (-1 : Int64)) = 0 then
      zb_M_set_153 n s0 a0 i1 j2
    else
      zk_p (zf_M_in n j2 (1 : Int64) (7 : Int64)) fun i_6 =>
      if i_6 = 0 then
        zb_M_set_158 n s0 a0 i1 j2 (0 : Int32)
      else
        zb_M_set_153 n s0 a0 i1 j2
  else
  if i1 = 9 then
    if (lg_cmp j2 (0 : Int64)) = 0 then
      zb_M_set_176 n s0 a0 i1 j2
    else
      zk_p (zf_M_isName n j2) fun i_7 =>
      if i_7 = 0 then
        zb_M_set_181 n s0 a0 i1 j2 (0 : Int32)
      else
        zb_M_set_176 n s0 a0 i1 j2
  else
  if i1 = 10 then
    if (lg_cmp j2 (0 : Int64)) = 0 then
      zb_M_set_176 n s0 a0 i1 j2
    else
      zk_p (zf_M_isName n j2) fun i_8 =>
      if i_8 = 0 then
        zb_M_set_181 n s0 a0 i1 j2 (0 : Int32)
      else
        zb_M_set_176 n s0 a0 i1 j2
  else
  if i1 = 11 then
    zk_p (zf_M_in n j2 (0 : Int64) (2 : Int64)) fun i_9 =>
    zb_M_set_201 n s0 a0 i1 j2 i_9
  else
  if i1 = 12 then
    zk_p (zf_M_in n j2 (0 : Int64) (5 : Int64)) fun i_10 =>
    zb_M_set_201 n s0 a0 i1 j2 i_10
  else
    some ((0 : Int32), s0)
def zf_Draft_has (n : Nat) (s0 : zh_S) (a0 : Nat) (i1 : Int32) : Option Int32 :=
  if i1 < 0 then
    some (0 : Int32)
  else
    if zh_oo s0 a0 1 then
    if (zh_I s0 a0 1) ≤ i1 then
      some (0 : Int32)
    else
      some (1 : Int32)
    else none
def zf_V_at (n : Nat) (s0 : zh_S) (a0 : Nat) (i1 : Int32) : Option Int32 :=
  if i1 = (-1 : Int32) then
    if zh_oo s0 a0 7 then
    zk_p (zh_R s0 a0 0) fun a_13 =>
    if zh_oo s0 a_13 1 then
    some (zh_I s0 a_13 1)
    else none
    else none
  else
    if zh_oo s0 a0 7 then
    zk_p (zh_R s0 a0 0) fun a_2 =>
    if zh_oo s0 a_2 1 then
    zk_p (zf_Draft_has n s0 a_2 i1) fun i_5 =>
    if i_5 = 0 then
      some (-1 : Int32)
    else
      zk_p (zh_R s0 a0 0) fun a_6 =>
      if zh_oo s0 a_6 1 then
      zk_p (zh_R s0 a_6 0) fun a_9 =>
      if zh_oa s0 a_9 0 i1 then
      some (zh_I s0 a_9 (i1.toNatClampNeg))
      else none
      else none
    else none
    else none
def zf_M_at (n : Nat) (s0 : zh_S) (a0 : Nat) (i1 : Int32) : Option Int32 :=
  if i1 = (-1 : Int32) then
    if zh_oo s0 a0 8 then
    some (zh_I s0 a0 1)
    else none
  else
    if i1 < 0 then
      some (-1 : Int32)
    else
      if zh_oo s0 a0 8 then
      if i1 < (zh_I s0 a0 1) then
        zk_p (zh_R s0 a0 0) fun a_2 =>
        if zh_oa s0 a_2 0 i1 then
        some (zh_I s0 a_2 (i1.toNatClampNeg))
        else none
      else
        some (-1 : Int32)
      else none
def zf_V_clear (n : Nat) (s0 : zh_S) (a0 : Nat) : Option zh_S :=
  if zh_oo s0 a0 7 then
  zk_p (zh_R s0 a0 0) fun a_2 =>
  if zh_oo s0 a_2 1 then
  zk_p (zf_Draft_empty n s0 a_2) fun s_4 =>
  some s_4
  else none
  else none
def zf_M_clear (n : Nat) (s0 : zh_S) (a0 : Nat) : Option zh_S :=
  if zh_oo s0 a0 8 then
  zk_l (zh_uI s0 a0 1 (0 : Int32)) fun s_1 =>
  some s_1
  else none
def zf_Draft_replace (n : Nat) (s0 : zh_S) (a0 : Nat) (i1 : Int32) (i2 : Int32) : Option (Int32 × zh_S) :=
  if zh_oo s0 a0 1 then
  zk_p (zf_Draft_has n s0 a0 i1) fun i_2 =>
  if i_2 = 0 then
    some ((0 : Int32), s0)
  else
    zk_p (zf_Draft_isByte n i2) fun i_3 =>
    if i_3 = 0 then
      some ((0 : Int32), s0)
    else
      zk_p (zh_R s0 a0 0) fun a_4 =>
      if zh_oa s0 a_4 0 i1 then
      zk_l (zh_uI s0 a_4 (i1.toNatClampNeg) i2) fun s_6 =>
      some ((1 : Int32), s_6)
      else none
  else none
def zf_V_poke (n : Nat) (s0 : zh_S) (a0 : Nat) (i1 : Int32) (i2 : Int32) : Option (Int32 × zh_S) :=
  if zh_oo s0 a0 7 then
  zk_p (zh_R s0 a0 0) fun a_2 =>
  if zh_oo s0 a_2 1 then
  zk_b (zf_Draft_replace n s0 a_2 i1 i2) fun i_6 s_4 =>
  if i_6 = 0 ∨ i_6 = 1 then
  some (i_6, s_4)
  else none
  else none
  else none
def zf_M_poke (n : Nat) (s0 : zh_S) (a0 : Nat) (i1 : Int32) (i2 : Int32) : Option (Int32 × zh_S) :=
  if i1 < 0 then
    some ((0 : Int32), s0)
  else
    if zh_oo s0 a0 8 then
    if (zh_I s0 a0 1) ≤ i1 then
      some ((0 : Int32), s0)
    else
      zk_p (zf_M_in n (i2.toInt64) (0 : Int64) (255 : Int64)) fun i_2 =>
      if i_2 = 0 then
        some ((0 : Int32), s0)
      else
        zk_p (zh_R s0 a0 0) fun a_3 =>
        if zh_oa s0 a_3 0 i1 then
        zk_l (zh_uI s0 a_3 (i1.toNatClampNeg) i2) fun s_5 =>
        some ((1 : Int32), s_5)
        else none
    else none
def zf_V_put (n : Nat) (s0 : zh_S) (a0 : Nat) (i1 : Int32) : Option (Int32 × zh_S) :=
  if zh_oo s0 a0 7 then
  zk_p (zh_R s0 a0 0) fun a_2 =>
  if zh_oo s0 a_2 1 then
  zk_b (zf_Draft_append n s0 a_2 i1) fun i_6 s_4 =>
  if i_6 = 0 ∨ i_6 = 1 then
  some (i_6, s_4)
  else none
  else none
  else none
def zf_M_put (n : Nat) (s0 : zh_S) (a0 : Nat) (i1 : Int32) : Option (Int32 × zh_S) :=
  zk_p (zf_M_in n (i1.toInt64) (0 : Int64) (255 : Int64)) fun i_1 =>
  if i_1 = 0 then
    some ((0 : Int32), s0)
  else
    if zh_oo s0 a0 8 then
    if (zh_I s0 a0 1) = (200 : Int32) then
      some ((0 : Int32), s0)
    else
      zk_p (zh_R s0 a0 0) fun a_3 =>
      if zh_oa s0 a_3 0 (zh_I s0 a0 1) then
      zk_l (zh_uI s0 a_3 ((zh_I s0 a0 1).toNatClampNeg) i1) fun s_5 =>
      if zh_oo s_5 a0 8 then
      zk_l (zh_uI s_5 a0 1 ((zh_I s_5 a0 1) + (1 : Int32))) fun s_8 =>
      some ((1 : Int32), s_8)
      else none
      else none
    else none
def zb_L_law_849 (n : Nat) (xs : Nat → Int32) (L : Nat) (r18 : zh_S → Nat → Nat → Int32 → Option (Int32 × zh_S)) (s0 : zh_S) (a1 : Nat) (a2 : Nat) (i3 : Int32) : Option (Int32 × zh_S) :=
  zk_l (i3 + (8 : Int32)) fun i_1 =>
  r18 s0 a1 a2 i_1
def zb_L_law_434 (n : Nat) (xs : Nat → Int32) (L : Nat) (r18 : zh_S → Nat → Nat → Int32 → Option (Int32 × zh_S)) (s0 : zh_S) (a1 : Nat) (a2 : Nat) (i3 : Int32) (it0 : Int32) (at1 : Nat) (it2 : Int32) : Option (Int32 × zh_S) :=
  if zh_oo s0 at1 8 then
  zk_b (zf_M_check n s0 at1 it2) fun i_3 s_1 =>
  if it0 = i_3 then
    zb_L_law_849 n xs L r18 s_1 a1 a2 i3
  else
    some ((0 : Int32), s_1)
  else none
def zb_L_law_417 (n : Nat) (xs : Nat → Int32) (L : Nat) (r18 : zh_S → Nat → Nat → Int32 → Option (Int32 × zh_S)) (s0 : zh_S) (a1 : Nat) (a2 : Nat) (i3 : Int32) (at0 : Nat) (it1 : Int32) : Option (Int32 × zh_S) :=
  if zh_oo s0 at0 7 then
  zk_b (zf_V_check n s0 at0 it1) fun i_3 s_1 =>
  if ¬ (i3 + (1 : Int32)) < 0 ∧ (i3 + (1 : Int32)).toNatClampNeg < L then
  if (xs (i3 + (1 : Int32)).toNatClampNeg) = 0 then
    zb_L_law_434 n xs L r18 s_1 a1 a2 i3 i_3 a2 (0 : Int32)
  else
    zb_L_law_434 n xs L r18 s_1 a1 a2 i3 i_3 a2 (1 : Int32)
  else none
  else none
def zb_L_law_624 (n : Nat) (xs : Nat → Int32) (L : Nat) (r18 : zh_S → Nat → Nat → Int32 → Option (Int32 × zh_S)) (s0 : zh_S) (a1 : Nat) (a2 : Nat) (i3 : Int32) (it0 : Int32) (at1 : Nat) (it2 : Int32) (jt3 : Int64) (it4 : Int32) (it5 : Int32) : Option (Int32 × zh_S) :=
  if zh_oo s0 at1 8 then
  zk_b (zf_M_validate n s0 at1 it2 jt3 it4 it5) fun i_3 s_1 =>
  if it0 = i_3 then
    zb_L_law_849 n xs L r18 s_1 a1 a2 i3
  else
    some ((0 : Int32), s_1)
  else none
def zb_L_law_577 (n : Nat) (xs : Nat → Int32) (L : Nat) (r18 : zh_S → Nat → Nat → Int32 → Option (Int32 × zh_S)) (s0 : zh_S) (a1 : Nat) (a2 : Nat) (i3 : Int32) (at0 : Nat) (it1 : Int32) (jt2 : Int64) (it3 : Int32) (it4 : Int32) : Option (Int32 × zh_S) :=
  if zh_oo s0 at0 7 then
  zk_b (zf_V_validate n s0 at0 it1 jt2 it3 it4) fun i_3 s_1 =>
  if ¬ (i3 + (1 : Int32)) < 0 ∧ (i3 + (1 : Int32)).toNatClampNeg < L then
  if ¬ (i3 + (2 : Int32)) < 0 ∧ (i3 + (2 : Int32)).toNatClampNeg < L then
  if ¬ (i3 + (3 : Int32)) < 0 ∧ (i3 + (3 : Int32)).toNatClampNeg < L then
  if ¬ (i3 + (4 : Int32)) < 0 ∧ (i3 + (4 : Int32)).toNatClampNeg < L then
  if ¬ (i3 + (5 : Int32)) < 0 ∧ (i3 + (5 : Int32)).toNatClampNeg < L then
  if (xs (i3 + (5 : Int32)).toNatClampNeg) = 0 then
    zb_L_law_624 n xs L r18 s_1 a1 a2 i3 i_3 a2 (xs (i3 + (1 : Int32)).toNatClampNeg) (((xs (i3 + (2 : Int32)).toNatClampNeg).toInt64 <<< ((32 : Int32).toInt64 &&& 63)) ||| ((xs (i3 + (3 : Int32)).toNatClampNeg).toInt64 &&& (4294967295 : Int64))) (xs (i3 + (4 : Int32)).toNatClampNeg) (0 : Int32)
  else
    zb_L_law_624 n xs L r18 s_1 a1 a2 i3 i_3 a2 (xs (i3 + (1 : Int32)).toNatClampNeg) (((xs (i3 + (2 : Int32)).toNatClampNeg).toInt64 <<< ((32 : Int32).toInt64 &&& 63)) ||| ((xs (i3 + (3 : Int32)).toNatClampNeg).toInt64 &&& (4294967295 : Int64))) (xs (i3 + (4 : Int32)).toNatClampNeg) (1 : Int32)
  else none
  else none
  else none
  else none
  else none
  else none
def zl_L_law_18 (n : Nat) (xs : Nat → Int32) (L : Nat) : Nat → zh_S → Nat → Nat → Int32 → Option (Int32 × zh_S)
  | 0, _, _, _, _ => none
  | k + 1, s0, a1, a2, i3 =>
    if ((Int32.ofNat L) - (8 : Int32)) < i3 then
      some ((1 : Int32), s0)
    else
      if ¬ i3 < 0 ∧ i3.toNatClampNeg < L then
      if ((xs i3.toNatClampNeg) &&& (31 : Int32)) = 0 then
        if ¬ (i3 + (1 : Int32)) < 0 ∧ (i3 + (1 : Int32)).toNatClampNeg < L then
        if zh_oo s0 a1 7 then
        zk_b (zf_V_put n s0 a1 (xs (i3 + (1 : Int32)).toNatClampNeg)) fun i_5 s_3 =>
        if ¬ (i3 + (1 : Int32)) < 0 ∧ (i3 + (1 : Int32)).toNatClampNeg < L then
        if zh_oo s_3 a2 8 then
        zk_b (zf_M_put n s_3 a2 (xs (i3 + (1 : Int32)).toNatClampNeg)) fun i_9 s_7 =>
        if i_5 = i_9 then
          zb_L_law_849 n xs L (zl_L_law_18 n xs L k) s_7 a1 a2 i3
        else
          some ((0 : Int32), s_7)
        else none
        else none
        else none
        else none
      else
      if ((xs i3.toNatClampNeg) &&& (31 : Int32)) = 1 then
        if ¬ (i3 + (1 : Int32)) < 0 ∧ (i3 + (1 : Int32)).toNatClampNeg < L then
        if ¬ (i3 + (2 : Int32)) < 0 ∧ (i3 + (2 : Int32)).toNatClampNeg < L then
        if zh_oo s0 a1 7 then
        zk_b (zf_V_poke n s0 a1 (xs (i3 + (1 : Int32)).toNatClampNeg) (xs (i3 + (2 : Int32)).toNatClampNeg)) fun i_14 s_12 =>
        if ¬ (i3 + (1 : Int32)) < 0 ∧ (i3 + (1 : Int32)).toNatClampNeg < L then
        if ¬ (i3 + (2 : Int32)) < 0 ∧ (i3 + (2 : Int32)).toNatClampNeg < L then
        if zh_oo s_12 a2 8 then
        zk_b (zf_M_poke n s_12 a2 (xs (i3 + (1 : Int32)).toNatClampNeg) (xs (i3 + (2 : Int32)).toNatClampNeg)) fun i_19 s_17 =>
        if i_14 = i_19 then
          zb_L_law_849 n xs L (zl_L_law_18 n xs L k) s_17 a1 a2 i3
        else
          some ((0 : Int32), s_17)
        else none
        else none
        else none
        else none
        else none
        else none
      else
      if ((xs i3.toNatClampNeg) &&& (31 : Int32)) = 2 then
        if zh_oo s0 a1 7 then
        zk_p (zf_V_clear n s0 a1) fun s_20 =>
        if zh_oo s_20 a2 8 then
        zk_p (zf_M_clear n s_20 a2) fun s_22 =>
        zb_L_law_849 n xs L (zl_L_law_18 n xs L k) s_22 a1 a2 i3
        else none
        else none
      else
      if ((xs i3.toNatClampNeg) &&& (31 : Int32)) = 3 then
        if ¬ (i3 + (1 : Int32)) < 0 ∧ (i3 + (1 : Int32)).toNatClampNeg < L then
        if zh_oo s0 a1 7 then
        zk_p (zf_V_at n s0 a1 (xs (i3 + (1 : Int32)).toNatClampNeg)) fun i_26 =>
        if ¬ (i3 + (1 : Int32)) < 0 ∧ (i3 + (1 : Int32)).toNatClampNeg < L then
        if zh_oo s0 a2 8 then
        zk_p (zf_M_at n s0 a2 (xs (i3 + (1 : Int32)).toNatClampNeg)) fun i_29 =>
        if i_26 = i_29 then
          zb_L_law_849 n xs L (zl_L_law_18 n xs L k) s0 a1 a2 i3
        else
          some ((0 : Int32), s0)
        else none
        else none
        else none
        else none
      else
      if ((xs i3.toNatClampNeg) &&& (31 : Int32)) = 4 then
        if ¬ (i3 + (1 : Int32)) < 0 ∧ (i3 + (1 : Int32)).toNatClampNeg < L then
        if ¬ (i3 + (2 : Int32)) < 0 ∧ (i3 + (2 : Int32)).toNatClampNeg < L then
        if ¬ (i3 + (3 : Int32)) < 0 ∧ (i3 + (3 : Int32)).toNatClampNeg < L then
        if zh_oo s0 a1 7 then
        zk_b (zf_V_set n s0 a1 (xs (i3 + (1 : Int32)).toNatClampNeg) (((xs (i3 + (2 : Int32)).toNatClampNeg).toInt64 <<< ((32 : Int32).toInt64 &&& 63)) ||| ((xs (i3 + (3 : Int32)).toNatClampNeg).toInt64 &&& (4294967295 : Int64)))) fun i_35 s_33 =>
        if ¬ (i3 + (1 : Int32)) < 0 ∧ (i3 + (1 : Int32)).toNatClampNeg < L then
        if ¬ (i3 + (2 : Int32)) < 0 ∧ (i3 + (2 : Int32)).toNatClampNeg < L then
        if ¬ (i3 + (3 : Int32)) < 0 ∧ (i3 + (3 : Int32)).toNatClampNeg < L then
        if zh_oo s_33 a2 8 then
        zk_b (zf_M_set n s_33 a2 (xs (i3 + (1 : Int32)).toNatClampNeg) (((xs (i3 + (2 : Int32)).toNatClampNeg).toInt64 <<< ((32 : Int32).toInt64 &&& 63)) ||| ((xs (i3 + (3 : Int32)).toNatClampNeg).toInt64 &&& (4294967295 : Int64)))) fun i_41 s_39 =>
        if i_35 = i_41 then
          zb_L_law_849 n xs L (zl_L_law_18 n xs L k) s_39 a1 a2 i3
        else
          some ((0 : Int32), s_39)
        else none
        else none
        else none
        else none
        else none
        else none
        else none
        else none
      else
      if ((xs i3.toNatClampNeg) &&& (31 : Int32)) = 5 then
        if ¬ (i3 + (1 : Int32)) < 0 ∧ (i3 + (1 : Int32)).toNatClampNeg < L then
        if ¬ (i3 + (2 : Int32)) < 0 ∧ (i3 + (2 : Int32)).toNatClampNeg < L then
        if ¬ (i3 + (3 : Int32)) < 0 ∧ (i3 + (3 : Int32)).toNatClampNeg < L then
        if ¬ (i3 + (4 : Int32)) < 0 ∧ (i3 + (4 : Int32)).toNatClampNeg < L then
        if zh_oo s0 a1 7 then
        zk_b (zf_V_revoke n s0 a1 (((xs (i3 + (1 : Int32)).toNatClampNeg).toInt64 <<< ((32 : Int32).toInt64 &&& 63)) ||| ((xs (i3 + (2 : Int32)).toNatClampNeg).toInt64 &&& (4294967295 : Int64))) (((xs (i3 + (3 : Int32)).toNatClampNeg).toInt64 <<< ((32 : Int32).toInt64 &&& 63)) ||| ((xs (i3 + (4 : Int32)).toNatClampNeg).toInt64 &&& (4294967295 : Int64)))) fun i_48 s_46 =>
        if ¬ (i3 + (1 : Int32)) < 0 ∧ (i3 + (1 : Int32)).toNatClampNeg < L then
        if ¬ (i3 + (2 : Int32)) < 0 ∧ (i3 + (2 : Int32)).toNatClampNeg < L then
        if ¬ (i3 + (3 : Int32)) < 0 ∧ (i3 + (3 : Int32)).toNatClampNeg < L then
        if ¬ (i3 + (4 : Int32)) < 0 ∧ (i3 + (4 : Int32)).toNatClampNeg < L then
        if zh_oo s_46 a2 8 then
        zk_b (zf_M_revoke n s_46 a2 (((xs (i3 + (1 : Int32)).toNatClampNeg).toInt64 <<< ((32 : Int32).toInt64 &&& 63)) ||| ((xs (i3 + (2 : Int32)).toNatClampNeg).toInt64 &&& (4294967295 : Int64))) (((xs (i3 + (3 : Int32)).toNatClampNeg).toInt64 <<< ((32 : Int32).toInt64 &&& 63)) ||| ((xs (i3 + (4 : Int32)).toNatClampNeg).toInt64 &&& (4294967295 : Int64)))) fun i_55 s_53 =>
        if i_48 = i_55 then
          zb_L_law_849 n xs L (zl_L_law_18 n xs L k) s_53 a1 a2 i3
        else
          some ((0 : Int32), s_53)
        else none
        else none
        else none
        else none
        else none
        else none
        else none
        else none
        else none
        else none
      else
      if ((xs i3.toNatClampNeg) &&& (31 : Int32)) = 6 then
        if zh_oo s0 a1 7 then
        zk_p (zf_V_forgive n s0 a1) fun s_56 =>
        if zh_oo s_56 a2 8 then
        zk_p (zf_M_forgive n s_56 a2) fun s_58 =>
        zb_L_law_849 n xs L (zl_L_law_18 n xs L k) s_58 a1 a2 i3
        else none
        else none
      else
      if ((xs i3.toNatClampNeg) &&& (31 : Int32)) = 7 then
        if zh_oo s0 a1 7 then
        zk_b (zf_V_compose n s0 a1) fun i_62 s_60 =>
        if zh_oo s_60 a2 8 then
        zk_b (zf_M_compose n s_60 a2) fun i_65 s_63 =>
        if i_62 = i_65 then
          zb_L_law_849 n xs L (zl_L_law_18 n xs L k) s_63 a1 a2 i3
        else
          some ((0 : Int32), s_63)
        else none
        else none
      else
      if ((xs i3.toNatClampNeg) &&& (31 : Int32)) = 8 then
        if zh_oo s0 a1 7 then
        zk_b (zf_V_composeList n s0 a1) fun i_68 s_66 =>
        if zh_oo s_66 a2 8 then
        zk_b (zf_M_composeList n s_66 a2) fun i_71 s_69 =>
        if i_68 = i_71 then
          zb_L_law_849 n xs L (zl_L_law_18 n xs L k) s_69 a1 a2 i3
        else
          some ((0 : Int32), s_69)
        else none
        else none
      else
      if ((xs i3.toNatClampNeg) &&& (31 : Int32)) = 9 then
        if ¬ (i3 + (1 : Int32)) < 0 ∧ (i3 + (1 : Int32)).toNatClampNeg < L then
        if (xs (i3 + (1 : Int32)).toNatClampNeg) = 0 then
          zb_L_law_417 n xs L (zl_L_law_18 n xs L k) s0 a1 a2 i3 a1 (0 : Int32)
        else
          zb_L_law_417 n xs L (zl_L_law_18 n xs L k) s0 a1 a2 i3 a1 (1 : Int32)
        else none
      else
      if ((xs i3.toNatClampNeg) &&& (31 : Int32)) = 10 then
        if ¬ (i3 + (1 : Int32)) < 0 ∧ (i3 + (1 : Int32)).toNatClampNeg < L then
        if zh_oo s0 a1 7 then
        zk_b (zf_V_store n s0 a1 (xs (i3 + (1 : Int32)).toNatClampNeg)) fun i_76 s_74 =>
        if ¬ (i3 + (1 : Int32)) < 0 ∧ (i3 + (1 : Int32)).toNatClampNeg < L then
        if zh_oo s_74 a2 8 then
        zk_b (zf_M_store n s_74 a2 (xs (i3 + (1 : Int32)).toNatClampNeg)) fun i_80 s_78 =>
        if i_76 = i_80 then
          zb_L_law_849 n xs L (zl_L_law_18 n xs L k) s_78 a1 a2 i3
        else
          some ((0 : Int32), s_78)
        else none
        else none
        else none
        else none
      else
      if ((xs i3.toNatClampNeg) &&& (31 : Int32)) = 11 then
        if ¬ (i3 + (1 : Int32)) < 0 ∧ (i3 + (1 : Int32)).toNatClampNeg < L then
        if ¬ (i3 + (2 : Int32)) < 0 ∧ (i3 + (2 : Int32)).toNatClampNeg < L then
        if zh_oo s0 a1 7 then
        zk_p (zf_V_certificate n s0 a1 (xs (i3 + (1 : Int32)).toNatClampNeg) (xs (i3 + (2 : Int32)).toNatClampNeg)) fun j_84 =>
        if ¬ (i3 + (1 : Int32)) < 0 ∧ (i3 + (1 : Int32)).toNatClampNeg < L then
        if ¬ (i3 + (2 : Int32)) < 0 ∧ (i3 + (2 : Int32)).toNatClampNeg < L then
        if zh_oo s0 a2 8 then
        zk_p (zf_M_certificate n s0 a2 (xs (i3 + (1 : Int32)).toNatClampNeg) (xs (i3 + (2 : Int32)).toNatClampNeg)) fun j_88 =>
        if (lg_cmp j_84 j_88) = 0 then
          zb_L_law_849 n xs L (zl_L_law_18 n xs L k) s0 a1 a2 i3
        else
          some ((0 : Int32), s0)
        else none
        else none
        else none
        else none
        else none
        else none
      else
      if ((xs i3.toNatClampNeg) &&& (31 : Int32)) = 12 then
        if ¬ (i3 + (1 : Int32)) < 0 ∧ (i3 + (1 : Int32)).toNatClampNeg < L then
        if ¬ (i3 + (2 : Int32)) < 0 ∧ (i3 + (2 : Int32)).toNatClampNeg < L then
        if zh_oo s0 a1 7 then
        zk_p (zf_V_list n s0 a1 (xs (i3 + (1 : Int32)).toNatClampNeg) (xs (i3 + (2 : Int32)).toNatClampNeg)) fun j_92 =>
        if ¬ (i3 + (1 : Int32)) < 0 ∧ (i3 + (1 : Int32)).toNatClampNeg < L then
        if ¬ (i3 + (2 : Int32)) < 0 ∧ (i3 + (2 : Int32)).toNatClampNeg < L then
        if zh_oo s0 a2 8 then
        zk_p (zf_M_list n s0 a2 (xs (i3 + (1 : Int32)).toNatClampNeg) (xs (i3 + (2 : Int32)).toNatClampNeg)) fun j_96 =>
        if (lg_cmp j_92 j_96) = 0 then
          zb_L_law_849 n xs L (zl_L_law_18 n xs L k) s0 a1 a2 i3
        else
          some ((0 : Int32), s0)
        else none
        else none
        else none
        else none
        else none
        else none
      else
      if ((xs i3.toNatClampNeg) &&& (31 : Int32)) = 13 then
        if ¬ (i3 + (1 : Int32)) < 0 ∧ (i3 + (1 : Int32)).toNatClampNeg < L then
        if ¬ (i3 + (2 : Int32)) < 0 ∧ (i3 + (2 : Int32)).toNatClampNeg < L then
        if ¬ (i3 + (3 : Int32)) < 0 ∧ (i3 + (3 : Int32)).toNatClampNeg < L then
        if ¬ (i3 + (4 : Int32)) < 0 ∧ (i3 + (4 : Int32)).toNatClampNeg < L then
        if ¬ (i3 + (5 : Int32)) < 0 ∧ (i3 + (5 : Int32)).toNatClampNeg < L then
        if (xs (i3 + (5 : Int32)).toNatClampNeg) = 0 then
          zb_L_law_577 n xs L (zl_L_law_18 n xs L k) s0 a1 a2 i3 a1 (xs (i3 + (1 : Int32)).toNatClampNeg) (((xs (i3 + (2 : Int32)).toNatClampNeg).toInt64 <<< ((32 : Int32).toInt64 &&& 63)) ||| ((xs (i3 + (3 : Int32)).toNatClampNeg).toInt64 &&& (4294967295 : Int64))) (xs (i3 + (4 : Int32)).toNatClampNeg) (0 : Int32)
        else
          zb_L_law_577 n xs L (zl_L_law_18 n xs L k) s0 a1 a2 i3 a1 (xs (i3 + (1 : Int32)).toNatClampNeg) (((xs (i3 + (2 : Int32)).toNatClampNeg).toInt64 <<< ((32 : Int32).toInt64 &&& 63)) ||| ((xs (i3 + (3 : Int32)).toNatClampNeg).toInt64 &&& (4294967295 : Int64))) (xs (i3 + (4 : Int32)).toNatClampNeg) (1 : Int32)
        else none
        else none
        else none
        else none
        else none
      else
      if ((xs i3.toNatClampNeg) &&& (31 : Int32)) = 14 then
        if ¬ (i3 + (1 : Int32)) < 0 ∧ (i3 + (1 : Int32)).toNatClampNeg < L then
        if zh_oo s0 a1 7 then
        zk_p (zf_V_chain n s0 a1 (xs (i3 + (1 : Int32)).toNatClampNeg)) fun i_104 =>
        if ¬ (i3 + (1 : Int32)) < 0 ∧ (i3 + (1 : Int32)).toNatClampNeg < L then
        if zh_oo s0 a2 8 then
        zk_p (zf_M_chain n s0 a2 (xs (i3 + (1 : Int32)).toNatClampNeg)) fun i_107 =>
        if i_104 = i_107 then
          zb_L_law_849 n xs L (zl_L_law_18 n xs L k) s0 a1 a2 i3
        else
          some ((0 : Int32), s0)
        else none
        else none
        else none
        else none
      else
      if ((xs i3.toNatClampNeg) &&& (31 : Int32)) = 15 then
        if zh_oo s0 a1 7 then
        zk_p (zf_V_candidates n s0 a1) fun i_109 =>
        if zh_oo s0 a2 8 then
        zk_p (zf_M_candidates n s0 a2) fun i_111 =>
        if i_109 = i_111 then
          zb_L_law_849 n xs L (zl_L_law_18 n xs L k) s0 a1 a2 i3
        else
          some ((0 : Int32), s0)
        else none
        else none
      else
      if ((xs i3.toNatClampNeg) &&& (31 : Int32)) = 16 then
        if ¬ (i3 + (1 : Int32)) < 0 ∧ (i3 + (1 : Int32)).toNatClampNeg < L then
        if ¬ (i3 + (2 : Int32)) < 0 ∧ (i3 + (2 : Int32)).toNatClampNeg < L then
        if zh_oo s0 a1 7 then
        zk_p (zf_V_sign n a1 (xs (i3 + (1 : Int32)).toNatClampNeg) (xs (i3 + (2 : Int32)).toNatClampNeg)) fun j_115 =>
        if ¬ (i3 + (1 : Int32)) < 0 ∧ (i3 + (1 : Int32)).toNatClampNeg < L then
        if ¬ (i3 + (2 : Int32)) < 0 ∧ (i3 + (2 : Int32)).toNatClampNeg < L then
        if zh_oo s0 a2 8 then
        zk_p (zf_M_sign n s0 a2 (xs (i3 + (1 : Int32)).toNatClampNeg) (xs (i3 + (2 : Int32)).toNatClampNeg)) fun j_119 =>
        if (lg_cmp j_115 j_119) = 0 then
          zb_L_law_849 n xs L (zl_L_law_18 n xs L k) s0 a1 a2 i3
        else
          some ((0 : Int32), s0)
        else none
        else none
        else none
        else none
        else none
        else none
      else
      if ((xs i3.toNatClampNeg) &&& (31 : Int32)) = 17 then
        if ¬ (i3 + (1 : Int32)) < 0 ∧ (i3 + (1 : Int32)).toNatClampNeg < L then
        if ¬ (i3 + (2 : Int32)) < 0 ∧ (i3 + (2 : Int32)).toNatClampNeg < L then
        if ¬ (i3 + (3 : Int32)) < 0 ∧ (i3 + (3 : Int32)).toNatClampNeg < L then
        if ¬ (i3 + (4 : Int32)) < 0 ∧ (i3 + (4 : Int32)).toNatClampNeg < L then
        if ¬ (i3 + (5 : Int32)) < 0 ∧ (i3 + (5 : Int32)).toNatClampNeg < L then
        if ¬ (i3 + (6 : Int32)) < 0 ∧ (i3 + (6 : Int32)).toNatClampNeg < L then
        if ¬ (i3 + (7 : Int32)) < 0 ∧ (i3 + (7 : Int32)).toNatClampNeg < L then
        if zh_oo s0 a1 7 then
        zk_p (zf_V_good n a1 (((xs (i3 + (1 : Int32)).toNatClampNeg).toInt64 <<< ((32 : Int32).toInt64 &&& 63)) ||| ((xs (i3 + (2 : Int32)).toNatClampNeg).toInt64 &&& (4294967295 : Int64))) (((xs (i3 + (3 : Int32)).toNatClampNeg).toInt64 <<< ((32 : Int32).toInt64 &&& 63)) ||| ((xs (i3 + (4 : Int32)).toNatClampNeg).toInt64 &&& (4294967295 : Int64))) (((xs (i3 + (5 : Int32)).toNatClampNeg).toInt64 <<< ((32 : Int32).toInt64 &&& 63)) ||| ((xs (i3 + (6 : Int32)).toNatClampNeg).toInt64 &&& (4294967295 : Int64))) (xs (i3 + (7 : Int32)).toNatClampNeg)) fun i_128 =>
        if ¬ (i3 + (1 : Int32)) < 0 ∧ (i3 + (1 : Int32)).toNatClampNeg < L then
        if ¬ (i3 + (2 : Int32)) < 0 ∧ (i3 + (2 : Int32)).toNatClampNeg < L then
        if ¬ (i3 + (3 : Int32)) < 0 ∧ (i3 + (3 : Int32)).toNatClampNeg < L then
        if ¬ (i3 + (4 : Int32)) < 0 ∧ (i3 + (4 : Int32)).toNatClampNeg < L then
        if ¬ (i3 + (5 : Int32)) < 0 ∧ (i3 + (5 : Int32)).toNatClampNeg < L then
        if ¬ (i3 + (6 : Int32)) < 0 ∧ (i3 + (6 : Int32)).toNatClampNeg < L then
        if ¬ (i3 + (7 : Int32)) < 0 ∧ (i3 + (7 : Int32)).toNatClampNeg < L then
        if zh_oo s0 a2 8 then
        zk_p (zf_M_good n a2 (((xs (i3 + (1 : Int32)).toNatClampNeg).toInt64 <<< ((32 : Int32).toInt64 &&& 63)) ||| ((xs (i3 + (2 : Int32)).toNatClampNeg).toInt64 &&& (4294967295 : Int64))) (((xs (i3 + (3 : Int32)).toNatClampNeg).toInt64 <<< ((32 : Int32).toInt64 &&& 63)) ||| ((xs (i3 + (4 : Int32)).toNatClampNeg).toInt64 &&& (4294967295 : Int64))) (((xs (i3 + (5 : Int32)).toNatClampNeg).toInt64 <<< ((32 : Int32).toInt64 &&& 63)) ||| ((xs (i3 + (6 : Int32)).toNatClampNeg).toInt64 &&& (4294967295 : Int64))) (xs (i3 + (7 : Int32)).toNatClampNeg)) fun i_137 =>
        if i_128 = i_137 then
          zb_L_law_849 n xs L (zl_L_law_18 n xs L k) s0 a1 a2 i3
        else
          some ((0 : Int32), s0)
        else none
        else none
        else none
        else none
        else none
        else none
        else none
        else none
        else none
        else none
        else none
        else none
        else none
        else none
        else none
        else none
      else
        zb_L_law_849 n xs L (zl_L_law_18 n xs L k) s0 a1 a2 i3
      else none
def zf_L_law (n : Nat) (xs : Nat → Int32) (L : Nat) (s0 : zh_S) : Option (Int32 × zh_S) :=
  zk_l (zh_N s0) fun a_2 =>
  zk_l (zh_new s0 (2, 7) 4) fun s_1 =>
  zk_p (zf_V_init n s_1 a_2) fun s_3 =>
  zk_l (zh_N s_3) fun a_5 =>
  zk_l (zh_new s_3 (2, 8) 27) fun s_4 =>
  zk_p (zf_M_init n s_4 a_5) fun s_6 =>
  zl_L_law_18 n xs L n s_6 a_2 a_5 (0 : Int32)
