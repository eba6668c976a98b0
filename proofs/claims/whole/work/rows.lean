section
-- ===== PART A: goes FIRST, ahead of the names: the tables' words, and 'selects' of the private methods out of them =====
/-- a private method of a class that the tables say can be made, by its rows of tables_1 -/
def lw_okq (q : MethodName × Nat) : Prop := (q.1.cls ≠ "java/lang/invoke/MethodHandle" ∧ q.1.cls ≠ "java/lang/invoke/VarHandle") ∧ Cond.instantiable q.1.cls q.2 ∈ tables_1 ∧ Cond.privateMethod q.1 ∈ tables_1 ∧ Cond.instanceMethod q.1 ∈ tables_1
theorem lw_p0 : lw_okq (⟨"CertificateVault$Tool", "writeExtensions", "(LCertificateVault$Draft;)V"⟩, 4) := ⟨⟨by decide +kernel, by decide +kernel⟩, List.mem_of_getElem? (i := 42) (by decide +kernel), List.mem_of_getElem? (i := 354) (by decide +kernel), List.mem_of_getElem? (i := 355) (by decide +kernel)⟩
theorem lw_p1 : lw_okq (⟨"CertificateVault$Tool", "writeBasic", "(LCertificateVault$Draft;)V"⟩, 4) := ⟨⟨by decide +kernel, by decide +kernel⟩, List.mem_of_getElem? (i := 42) (by decide +kernel), List.mem_of_getElem? (i := 358) (by decide +kernel), List.mem_of_getElem? (i := 359) (by decide +kernel)⟩
theorem lw_p2 : lw_okq (⟨"CertificateVault$Tool", "writeUsage", "(LCertificateVault$Draft;)V"⟩, 4) := ⟨⟨by decide +kernel, by decide +kernel⟩, List.mem_of_getElem? (i := 42) (by decide +kernel), List.mem_of_getElem? (i := 373) (by decide +kernel), List.mem_of_getElem? (i := 374) (by decide +kernel)⟩
theorem lw_p3 : lw_okq (⟨"CertificateVault$Tool", "writeRealm", "(LCertificateVault$Draft;)V"⟩, 4) := ⟨⟨by decide +kernel, by decide +kernel⟩, List.mem_of_getElem? (i := 42) (by decide +kernel), List.mem_of_getElem? (i := 377) (by decide +kernel), List.mem_of_getElem? (i := 378) (by decide +kernel)⟩
theorem lw_p4 : lw_okq (⟨"CertificateVault$Tool", "writeOwnExtension", "(LCertificateVault$Draft;)V"⟩, 4) := ⟨⟨by decide +kernel, by decide +kernel⟩, List.mem_of_getElem? (i := 42) (by decide +kernel), List.mem_of_getElem? (i := 382) (by decide +kernel), List.mem_of_getElem? (i := 383) (by decide +kernel)⟩
theorem lw_p5 : lw_okq (⟨"CertificateVault$Tool", "finish", "(LCertificateVault$Draft;)I"⟩, 4) := ⟨⟨by decide +kernel, by decide +kernel⟩, List.mem_of_getElem? (i := 42) (by decide +kernel), List.mem_of_getElem? (i := 386) (by decide +kernel), List.mem_of_getElem? (i := 387) (by decide +kernel)⟩
theorem lw_p6 : lw_okq (⟨"CertificateVault$Reader", "open", "(II)I"⟩, 3) := ⟨⟨by decide +kernel, by decide +kernel⟩, List.mem_of_getElem? (i := 428) (by decide +kernel), List.mem_of_getElem? (i := 457) (by decide +kernel), List.mem_of_getElem? (i := 458) (by decide +kernel)⟩
theorem lw_p7 : lw_okq (⟨"CertificateVault$Reader", "fail", "(II)I"⟩, 3) := ⟨⟨by decide +kernel, by decide +kernel⟩, List.mem_of_getElem? (i := 428) (by decide +kernel), List.mem_of_getElem? (i := 461) (by decide +kernel), List.mem_of_getElem? (i := 462) (by decide +kernel)⟩
theorem lw_p8 : lw_okq (⟨"CertificateVault$Reader", "readInteger", "(I)J"⟩, 3) := ⟨⟨by decide +kernel, by decide +kernel⟩, List.mem_of_getElem? (i := 428) (by decide +kernel), List.mem_of_getElem? (i := 465) (by decide +kernel), List.mem_of_getElem? (i := 466) (by decide +kernel)⟩
theorem lw_p9 : lw_okq (⟨"CertificateVault$Reader", "isInteger", "(I)Z"⟩, 3) := ⟨⟨by decide +kernel, by decide +kernel⟩, List.mem_of_getElem? (i := 428) (by decide +kernel), List.mem_of_getElem? (i := 469) (by decide +kernel), List.mem_of_getElem? (i := 470) (by decide +kernel)⟩
theorem lw_p10 : lw_okq (⟨"CertificateVault$Reader", "readName", "(II)J"⟩, 3) := ⟨⟨by decide +kernel, by decide +kernel⟩, List.mem_of_getElem? (i := 428) (by decide +kernel), List.mem_of_getElem? (i := 473) (by decide +kernel), List.mem_of_getElem? (i := 474) (by decide +kernel)⟩
theorem lw_p11 : lw_okq (⟨"CertificateVault$Reader", "isNext", "(II)Z"⟩, 3) := ⟨⟨by decide +kernel, by decide +kernel⟩, List.mem_of_getElem? (i := 428) (by decide +kernel), List.mem_of_getElem? (i := 481) (by decide +kernel), List.mem_of_getElem? (i := 482) (by decide +kernel)⟩
theorem lw_p12 : lw_okq (⟨"CertificateVault$Reader", "readExtensions", "(LCertificateVault$Certificate;I)V"⟩, 3) := ⟨⟨by decide +kernel, by decide +kernel⟩, List.mem_of_getElem? (i := 428) (by decide +kernel), List.mem_of_getElem? (i := 485) (by decide +kernel), List.mem_of_getElem? (i := 486) (by decide +kernel)⟩
theorem lw_p13 : lw_okq (⟨"CertificateVault$Reader", "readExtension", "(LCertificateVault$Certificate;JI)J"⟩, 3) := ⟨⟨by decide +kernel, by decide +kernel⟩, List.mem_of_getElem? (i := 428) (by decide +kernel), List.mem_of_getElem? (i := 490) (by decide +kernel), List.mem_of_getElem? (i := 491) (by decide +kernel)⟩
theorem lw_p14 : lw_okq (⟨"CertificateVault$Reader", "readFlag", "(I)Z"⟩, 3) := ⟨⟨by decide +kernel, by decide +kernel⟩, List.mem_of_getElem? (i := 428) (by decide +kernel), List.mem_of_getElem? (i := 494) (by decide +kernel), List.mem_of_getElem? (i := 495) (by decide +kernel)⟩
theorem lw_p15 : lw_okq (⟨"CertificateVault$Reader", "readBasic", "(LCertificateVault$Certificate;I)V"⟩, 3) := ⟨⟨by decide +kernel, by decide +kernel⟩, List.mem_of_getElem? (i := 428) (by decide +kernel), List.mem_of_getElem? (i := 498) (by decide +kernel), List.mem_of_getElem? (i := 499) (by decide +kernel)⟩
def lw_privs_1 : List (MethodName × Nat) := [(⟨"CertificateVault$Tool", "writeExtensions", "(LCertificateVault$Draft;)V"⟩, 4), (⟨"CertificateVault$Tool", "writeBasic", "(LCertificateVault$Draft;)V"⟩, 4), (⟨"CertificateVault$Tool", "writeUsage", "(LCertificateVault$Draft;)V"⟩, 4), (⟨"CertificateVault$Tool", "writeRealm", "(LCertificateVault$Draft;)V"⟩, 4), (⟨"CertificateVault$Tool", "writeOwnExtension", "(LCertificateVault$Draft;)V"⟩, 4), (⟨"CertificateVault$Tool", "finish", "(LCertificateVault$Draft;)I"⟩, 4), (⟨"CertificateVault$Reader", "open", "(II)I"⟩, 3), (⟨"CertificateVault$Reader", "fail", "(II)I"⟩, 3), (⟨"CertificateVault$Reader", "readInteger", "(I)J"⟩, 3), (⟨"CertificateVault$Reader", "isInteger", "(I)Z"⟩, 3), (⟨"CertificateVault$Reader", "readName", "(II)J"⟩, 3), (⟨"CertificateVault$Reader", "isNext", "(II)Z"⟩, 3), (⟨"CertificateVault$Reader", "readExtensions", "(LCertificateVault$Certificate;I)V"⟩, 3), (⟨"CertificateVault$Reader", "readExtension", "(LCertificateVault$Certificate;JI)J"⟩, 3), (⟨"CertificateVault$Reader", "readFlag", "(I)Z"⟩, 3), (⟨"CertificateVault$Reader", "readBasic", "(LCertificateVault$Certificate;I)V"⟩, 3)]
theorem lw_r1 : ∀ q ∈ lw_privs_1, lw_okq q := List.forall_mem_cons.mpr ⟨lw_p0, List.forall_mem_cons.mpr ⟨lw_p1, List.forall_mem_cons.mpr ⟨lw_p2, List.forall_mem_cons.mpr ⟨lw_p3, List.forall_mem_cons.mpr ⟨lw_p4, List.forall_mem_cons.mpr ⟨lw_p5, List.forall_mem_cons.mpr ⟨lw_p6, List.forall_mem_cons.mpr ⟨lw_p7, List.forall_mem_cons.mpr ⟨lw_p8, List.forall_mem_cons.mpr ⟨lw_p9, List.forall_mem_cons.mpr ⟨lw_p10, List.forall_mem_cons.mpr ⟨lw_p11, List.forall_mem_cons.mpr ⟨lw_p12, List.forall_mem_cons.mpr ⟨lw_p13, List.forall_mem_cons.mpr ⟨lw_p14, List.forall_mem_cons.mpr ⟨lw_p15, fun _ h => absurd h List.not_mem_nil⟩⟩⟩⟩⟩⟩⟩⟩⟩⟩⟩⟩⟩⟩⟩⟩
theorem lw_p16 : lw_okq (⟨"CertificateVault$Reader", "close", "(I)V"⟩, 3) := ⟨⟨by decide +kernel, by decide +kernel⟩, List.mem_of_getElem? (i := 428) (by decide +kernel), List.mem_of_getElem? (i := 502) (by decide +kernel), List.mem_of_getElem? (i := 503) (by decide +kernel)⟩
theorem lw_p17 : lw_okq (⟨"CertificateVault$Reader", "readUsage", "(LCertificateVault$Certificate;I)V"⟩, 3) := ⟨⟨by decide +kernel, by decide +kernel⟩, List.mem_of_getElem? (i := 428) (by decide +kernel), List.mem_of_getElem? (i := 507) (by decide +kernel), List.mem_of_getElem? (i := 508) (by decide +kernel)⟩
theorem lw_p18 : lw_okq (⟨"CertificateVault$Reader", "readRealm", "(LCertificateVault$Certificate;I)V"⟩, 3) := ⟨⟨by decide +kernel, by decide +kernel⟩, List.mem_of_getElem? (i := 428) (by decide +kernel), List.mem_of_getElem? (i := 513) (by decide +kernel), List.mem_of_getElem? (i := 514) (by decide +kernel)⟩
theorem lw_p19 : lw_okq (⟨"CertificateVault$Reader", "skipOpaque", "(I)V"⟩, 3) := ⟨⟨by decide +kernel, by decide +kernel⟩, List.mem_of_getElem? (i := 428) (by decide +kernel), List.mem_of_getElem? (i := 517) (by decide +kernel), List.mem_of_getElem? (i := 518) (by decide +kernel)⟩
theorem lw_p20 : lw_okq (⟨"CertificateVault$Reader", "readSignature", "(LCertificateVault$Signed;II)V"⟩, 3) := ⟨⟨by decide +kernel, by decide +kernel⟩, List.mem_of_getElem? (i := 428) (by decide +kernel), List.mem_of_getElem? (i := 521) (by decide +kernel), List.mem_of_getElem? (i := 522) (by decide +kernel)⟩
theorem lw_p21 : lw_okq (⟨"CertificateVault$Search", "goOn", "(I)Z"⟩, 8) := ⟨⟨by decide +kernel, by decide +kernel⟩, List.mem_of_getElem? (i := 587) (by decide +kernel), List.mem_of_getElem? (i := 623) (by decide +kernel), List.mem_of_getElem? (i := 624) (by decide +kernel)⟩
theorem lw_p22 : lw_okq (⟨"CertificateVault$Search", "inPart", "(I)LCertificateVault$Certificate;"⟩, 8) := ⟨⟨by decide +kernel, by decide +kernel⟩, List.mem_of_getElem? (i := 587) (by decide +kernel), List.mem_of_getElem? (i := 627) (by decide +kernel), List.mem_of_getElem? (i := 628) (by decide +kernel)⟩
theorem lw_p23 : lw_okq (⟨"CertificateVault$Search", "tryCandidate", "(I)Z"⟩, 8) := ⟨⟨by decide +kernel, by decide +kernel⟩, List.mem_of_getElem? (i := 587) (by decide +kernel), List.mem_of_getElem? (i := 631) (by decide +kernel), List.mem_of_getElem? (i := 632) (by decide +kernel)⟩
theorem lw_p24 : lw_okq (⟨"CertificateVault$Search", "reasonAgainst", "(II)I"⟩, 8) := ⟨⟨by decide +kernel, by decide +kernel⟩, List.mem_of_getElem? (i := 587) (by decide +kernel), List.mem_of_getElem? (i := 635) (by decide +kernel), List.mem_of_getElem? (i := 636) (by decide +kernel)⟩
theorem lw_p25 : lw_okq (⟨"CertificateVault$Search", "takeList", "(LCertificateVault$Certificate;I)LCertificateVault$RevokedList;"⟩, 8) := ⟨⟨by decide +kernel, by decide +kernel⟩, List.mem_of_getElem? (i := 587) (by decide +kernel), List.mem_of_getElem? (i := 651) (by decide +kernel), List.mem_of_getElem? (i := 652) (by decide +kernel)⟩
theorem lw_p26 : lw_okq (⟨"CertificateVault$Search", "isInRealms", "(II)Z"⟩, 8) := ⟨⟨by decide +kernel, by decide +kernel⟩, List.mem_of_getElem? (i := 587) (by decide +kernel), List.mem_of_getElem? (i := 669) (by decide +kernel), List.mem_of_getElem? (i := 670) (by decide +kernel)⟩
theorem lw_p27 : lw_okq (⟨"CertificateVault$Search", "countBefore", "(I)I"⟩, 8) := ⟨⟨by decide +kernel, by decide +kernel⟩, List.mem_of_getElem? (i := 587) (by decide +kernel), List.mem_of_getElem? (i := 678) (by decide +kernel), List.mem_of_getElem? (i := 679) (by decide +kernel)⟩
theorem lw_p28 : lw_okq (⟨"CertificateVault$Search", "goThrough", "(IZ)Z"⟩, 8) := ⟨⟨by decide +kernel, by decide +kernel⟩, List.mem_of_getElem? (i := 587) (by decide +kernel), List.mem_of_getElem? (i := 686) (by decide +kernel), List.mem_of_getElem? (i := 687) (by decide +kernel)⟩
theorem lw_p29 : lw_okq (⟨"CertificateVault$Search", "isInPart", "(II)Z"⟩, 8) := ⟨⟨by decide +kernel, by decide +kernel⟩, List.mem_of_getElem? (i := 587) (by decide +kernel), List.mem_of_getElem? (i := 690) (by decide +kernel), List.mem_of_getElem? (i := 691) (by decide +kernel)⟩
theorem lw_p30 : lw_okq (⟨"CertificateVaultModel", "integer", "(J)V"⟩, 27) := ⟨⟨by decide +kernel, by decide +kernel⟩, List.mem_of_getElem? (i := 717) (by decide +kernel), List.mem_of_getElem? (i := 894) (by decide +kernel), List.mem_of_getElem? (i := 895) (by decide +kernel)⟩
theorem lw_p31 : lw_okq (⟨"CertificateVaultModel", "add", "(I)V"⟩, 27) := ⟨⟨by decide +kernel, by decide +kernel⟩, List.mem_of_getElem? (i := 717) (by decide +kernel), List.mem_of_getElem? (i := 898) (by decide +kernel), List.mem_of_getElem? (i := 899) (by decide +kernel)⟩
def lw_privs_2 : List (MethodName × Nat) := [(⟨"CertificateVault$Reader", "close", "(I)V"⟩, 3), (⟨"CertificateVault$Reader", "readUsage", "(LCertificateVault$Certificate;I)V"⟩, 3), (⟨"CertificateVault$Reader", "readRealm", "(LCertificateVault$Certificate;I)V"⟩, 3), (⟨"CertificateVault$Reader", "skipOpaque", "(I)V"⟩, 3), (⟨"CertificateVault$Reader", "readSignature", "(LCertificateVault$Signed;II)V"⟩, 3), (⟨"CertificateVault$Search", "goOn", "(I)Z"⟩, 8), (⟨"CertificateVault$Search", "inPart", "(I)LCertificateVault$Certificate;"⟩, 8), (⟨"CertificateVault$Search", "tryCandidate", "(I)Z"⟩, 8), (⟨"CertificateVault$Search", "reasonAgainst", "(II)I"⟩, 8), (⟨"CertificateVault$Search", "takeList", "(LCertificateVault$Certificate;I)LCertificateVault$RevokedList;"⟩, 8), (⟨"CertificateVault$Search", "isInRealms", "(II)Z"⟩, 8), (⟨"CertificateVault$Search", "countBefore", "(I)I"⟩, 8), (⟨"CertificateVault$Search", "goThrough", "(IZ)Z"⟩, 8), (⟨"CertificateVault$Search", "isInPart", "(II)Z"⟩, 8), (⟨"CertificateVaultModel", "integer", "(J)V"⟩, 27), (⟨"CertificateVaultModel", "add", "(I)V"⟩, 27)]
theorem lw_r2 : ∀ q ∈ lw_privs_2, lw_okq q := List.forall_mem_cons.mpr ⟨lw_p16, List.forall_mem_cons.mpr ⟨lw_p17, List.forall_mem_cons.mpr ⟨lw_p18, List.forall_mem_cons.mpr ⟨lw_p19, List.forall_mem_cons.mpr ⟨lw_p20, List.forall_mem_cons.mpr ⟨lw_p21, List.forall_mem_cons.mpr ⟨lw_p22, List.forall_mem_cons.mpr ⟨lw_p23, List.forall_mem_cons.mpr ⟨lw_p24, List.forall_mem_cons.mpr ⟨lw_p25, List.forall_mem_cons.mpr ⟨lw_p26, List.forall_mem_cons.mpr ⟨lw_p27, List.forall_mem_cons.mpr ⟨lw_p28, List.forall_mem_cons.mpr ⟨lw_p29, List.forall_mem_cons.mpr ⟨lw_p30, List.forall_mem_cons.mpr ⟨lw_p31, fun _ h => absurd h List.not_mem_nil⟩⟩⟩⟩⟩⟩⟩⟩⟩⟩⟩⟩⟩⟩⟩⟩
theorem lw_p32 : lw_okq (⟨"CertificateVaultModel", "name", "(IJ)V"⟩, 27) := ⟨⟨by decide +kernel, by decide +kernel⟩, List.mem_of_getElem? (i := 717) (by decide +kernel), List.mem_of_getElem? (i := 902) (by decide +kernel), List.mem_of_getElem? (i := 903) (by decide +kernel)⟩
theorem lw_p33 : lw_okq (⟨"CertificateVaultModel", "extensions", "()V"⟩, 27) := ⟨⟨by decide +kernel, by decide +kernel⟩, List.mem_of_getElem? (i := 717) (by decide +kernel), List.mem_of_getElem? (i := 906) (by decide +kernel), List.mem_of_getElem? (i := 907) (by decide +kernel)⟩
theorem lw_p34 : lw_okq (⟨"CertificateVaultModel", "open", "(IZ)I"⟩, 27) := ⟨⟨by decide +kernel, by decide +kernel⟩, List.mem_of_getElem? (i := 717) (by decide +kernel), List.mem_of_getElem? (i := 910) (by decide +kernel), List.mem_of_getElem? (i := 911) (by decide +kernel)⟩
theorem lw_p35 : lw_okq (⟨"CertificateVaultModel", "yes", "()V"⟩, 27) := ⟨⟨by decide +kernel, by decide +kernel⟩, List.mem_of_getElem? (i := 717) (by decide +kernel), List.mem_of_getElem? (i := 914) (by decide +kernel), List.mem_of_getElem? (i := 915) (by decide +kernel)⟩
theorem lw_p36 : lw_okq (⟨"CertificateVaultModel", "wrap", "(II)V"⟩, 27) := ⟨⟨by decide +kernel, by decide +kernel⟩, List.mem_of_getElem? (i := 717) (by decide +kernel), List.mem_of_getElem? (i := 918) (by decide +kernel), List.mem_of_getElem? (i := 919) (by decide +kernel)⟩
theorem lw_p37 : lw_okq (⟨"CertificateVaultModel", "signed", "()I"⟩, 27) := ⟨⟨by decide +kernel, by decide +kernel⟩, List.mem_of_getElem? (i := 717) (by decide +kernel), List.mem_of_getElem? (i := 922) (by decide +kernel), List.mem_of_getElem? (i := 923) (by decide +kernel)⟩
theorem lw_p38 : lw_okq (⟨"CertificateVaultModel", "hash", "(II)I"⟩, 27) := ⟨⟨by decide +kernel, by decide +kernel⟩, List.mem_of_getElem? (i := 717) (by decide +kernel), List.mem_of_getElem? (i := 926) (by decide +kernel), List.mem_of_getElem? (i := 927) (by decide +kernel)⟩
theorem lw_p39 : lw_okq (⟨"CertificateVaultModel", "readCertificate", "()V"⟩, 27) := ⟨⟨by decide +kernel, by decide +kernel⟩, List.mem_of_getElem? (i := 717) (by decide +kernel), List.mem_of_getElem? (i := 941) (by decide +kernel), List.mem_of_getElem? (i := 942) (by decide +kernel)⟩
theorem lw_p40 : lw_okq (⟨"CertificateVaultModel", "head", "(II)I"⟩, 27) := ⟨⟨by decide +kernel, by decide +kernel⟩, List.mem_of_getElem? (i := 717) (by decide +kernel), List.mem_of_getElem? (i := 945) (by decide +kernel), List.mem_of_getElem? (i := 946) (by decide +kernel)⟩
theorem lw_p41 : lw_okq (⟨"CertificateVaultModel", "fails", "(II)V"⟩, 27) := ⟨⟨by decide +kernel, by decide +kernel⟩, List.mem_of_getElem? (i := 717) (by decide +kernel), List.mem_of_getElem? (i := 949) (by decide +kernel), List.mem_of_getElem? (i := 950) (by decide +kernel)⟩
theorem lw_p42 : lw_okq (⟨"CertificateVaultModel", "number", "(I)J"⟩, 27) := ⟨⟨by decide +kernel, by decide +kernel⟩, List.mem_of_getElem? (i := 717) (by decide +kernel), List.mem_of_getElem? (i := 953) (by decide +kernel), List.mem_of_getElem? (i := 954) (by decide +kernel)⟩
theorem lw_p43 : lw_okq (⟨"CertificateVaultModel", "title", "(II)J"⟩, 27) := ⟨⟨by decide +kernel, by decide +kernel⟩, List.mem_of_getElem? (i := 717) (by decide +kernel), List.mem_of_getElem? (i := 958) (by decide +kernel), List.mem_of_getElem? (i := 959) (by decide +kernel)⟩
theorem lw_p44 : lw_okq (⟨"CertificateVaultModel", "next", "(II)Z"⟩, 27) := ⟨⟨by decide +kernel, by decide +kernel⟩, List.mem_of_getElem? (i := 717) (by decide +kernel), List.mem_of_getElem? (i := 962) (by decide +kernel), List.mem_of_getElem? (i := 963) (by decide +kernel)⟩
theorem lw_p45 : lw_okq (⟨"CertificateVaultModel", "extension", "(JI)J"⟩, 27) := ⟨⟨by decide +kernel, by decide +kernel⟩, List.mem_of_getElem? (i := 717) (by decide +kernel), List.mem_of_getElem? (i := 966) (by decide +kernel), List.mem_of_getElem? (i := 967) (by decide +kernel)⟩
theorem lw_p46 : lw_okq (⟨"CertificateVaultModel", "truth", "(I)V"⟩, 27) := ⟨⟨by decide +kernel, by decide +kernel⟩, List.mem_of_getElem? (i := 717) (by decide +kernel), List.mem_of_getElem? (i := 970) (by decide +kernel), List.mem_of_getElem? (i := 971) (by decide +kernel)⟩
theorem lw_p47 : lw_okq (⟨"CertificateVaultModel", "basic", "(I)V"⟩, 27) := ⟨⟨by decide +kernel, by decide +kernel⟩, List.mem_of_getElem? (i := 717) (by decide +kernel), List.mem_of_getElem? (i := 974) (by decide +kernel), List.mem_of_getElem? (i := 975) (by decide +kernel)⟩
def lw_privs_3 : List (MethodName × Nat) := [(⟨"CertificateVaultModel", "name", "(IJ)V"⟩, 27), (⟨"CertificateVaultModel", "extensions", "()V"⟩, 27), (⟨"CertificateVaultModel", "open", "(IZ)I"⟩, 27), (⟨"CertificateVaultModel", "yes", "()V"⟩, 27), (⟨"CertificateVaultModel", "wrap", "(II)V"⟩, 27), (⟨"CertificateVaultModel", "signed", "()I"⟩, 27), (⟨"CertificateVaultModel", "hash", "(II)I"⟩, 27), (⟨"CertificateVaultModel", "readCertificate", "()V"⟩, 27), (⟨"CertificateVaultModel", "head", "(II)I"⟩, 27), (⟨"CertificateVaultModel", "fails", "(II)V"⟩, 27), (⟨"CertificateVaultModel", "number", "(I)J"⟩, 27), (⟨"CertificateVaultModel", "title", "(II)J"⟩, 27), (⟨"CertificateVaultModel", "next", "(II)Z"⟩, 27), (⟨"CertificateVaultModel", "extension", "(JI)J"⟩, 27), (⟨"CertificateVaultModel", "truth", "(I)V"⟩, 27), (⟨"CertificateVaultModel", "basic", "(I)V"⟩, 27)]
theorem lw_r3 : ∀ q ∈ lw_privs_3, lw_okq q := List.forall_mem_cons.mpr ⟨lw_p32, List.forall_mem_cons.mpr ⟨lw_p33, List.forall_mem_cons.mpr ⟨lw_p34, List.forall_mem_cons.mpr ⟨lw_p35, List.forall_mem_cons.mpr ⟨lw_p36, List.forall_mem_cons.mpr ⟨lw_p37, List.forall_mem_cons.mpr ⟨lw_p38, List.forall_mem_cons.mpr ⟨lw_p39, List.forall_mem_cons.mpr ⟨lw_p40, List.forall_mem_cons.mpr ⟨lw_p41, List.forall_mem_cons.mpr ⟨lw_p42, List.forall_mem_cons.mpr ⟨lw_p43, List.forall_mem_cons.mpr ⟨lw_p44, List.forall_mem_cons.mpr ⟨lw_p45, List.forall_mem_cons.mpr ⟨lw_p46, List.forall_mem_cons.mpr ⟨lw_p47, fun _ h => absurd h List.not_mem_nil⟩⟩⟩⟩⟩⟩⟩⟩⟩⟩⟩⟩⟩⟩⟩⟩
theorem lw_p48 : lw_okq (⟨"CertificateVaultModel", "done", "(I)V"⟩, 27) := ⟨⟨by decide +kernel, by decide +kernel⟩, List.mem_of_getElem? (i := 717) (by decide +kernel), List.mem_of_getElem? (i := 979) (by decide +kernel), List.mem_of_getElem? (i := 980) (by decide +kernel)⟩
theorem lw_p49 : lw_okq (⟨"CertificateVaultModel", "realm", "(I)V"⟩, 27) := ⟨⟨by decide +kernel, by decide +kernel⟩, List.mem_of_getElem? (i := 717) (by decide +kernel), List.mem_of_getElem? (i := 983) (by decide +kernel), List.mem_of_getElem? (i := 984) (by decide +kernel)⟩
theorem lw_p50 : lw_okq (⟨"CertificateVaultModel", "readList", "()V"⟩, 27) := ⟨⟨by decide +kernel, by decide +kernel⟩, List.mem_of_getElem? (i := 717) (by decide +kernel), List.mem_of_getElem? (i := 987) (by decide +kernel), List.mem_of_getElem? (i := 988) (by decide +kernel)⟩
theorem lw_p51 : lw_okq (⟨"CertificateVaultModel", "storeList", "()I"⟩, 27) := ⟨⟨by decide +kernel, by decide +kernel⟩, List.mem_of_getElem? (i := 717) (by decide +kernel), List.mem_of_getElem? (i := 996) (by decide +kernel), List.mem_of_getElem? (i := 997) (by decide +kernel)⟩
theorem lw_p52 : lw_okq (⟨"CertificateVaultModel", "of", "(II)J"⟩, 27) := ⟨⟨by decide +kernel, by decide +kernel⟩, List.mem_of_getElem? (i := 717) (by decide +kernel), List.mem_of_getElem? (i := 1004) (by decide +kernel), List.mem_of_getElem? (i := 1005) (by decide +kernel)⟩
theorem lw_p53 : lw_okq (⟨"CertificateVaultModel", "search", "(JIZ)I"⟩, 27) := ⟨⟨by decide +kernel, by decide +kernel⟩, List.mem_of_getElem? (i := 717) (by decide +kernel), List.mem_of_getElem? (i := 1016) (by decide +kernel), List.mem_of_getElem? (i := 1017) (by decide +kernel)⟩
theorem lw_p54 : lw_okq (⟨"CertificateVaultModel", "flag", "(IJ)Z"⟩, 27) := ⟨⟨by decide +kernel, by decide +kernel⟩, List.mem_of_getElem? (i := 717) (by decide +kernel), List.mem_of_getElem? (i := 1020) (by decide +kernel), List.mem_of_getElem? (i := 1021) (by decide +kernel)⟩
theorem lw_p55 : lw_okq (⟨"CertificateVaultModel", "holds", "(IJZ)Z"⟩, 27) := ⟨⟨by decide +kernel, by decide +kernel⟩, List.mem_of_getElem? (i := 717) (by decide +kernel), List.mem_of_getElem? (i := 1024) (by decide +kernel), List.mem_of_getElem? (i := 1025) (by decide +kernel)⟩
theorem lw_p56 : lw_okq (⟨"CertificateVaultModel", "against", "(IIJZ)I"⟩, 27) := ⟨⟨by decide +kernel, by decide +kernel⟩, List.mem_of_getElem? (i := 717) (by decide +kernel), List.mem_of_getElem? (i := 1028) (by decide +kernel), List.mem_of_getElem? (i := 1029) (by decide +kernel)⟩
theorem lw_p57 : lw_okq (⟨"CertificateVaultModel", "signedBy", "(JJI)Z"⟩, 27) := ⟨⟨by decide +kernel, by decide +kernel⟩, List.mem_of_getElem? (i := 717) (by decide +kernel), List.mem_of_getElem? (i := 1032) (by decide +kernel), List.mem_of_getElem? (i := 1033) (by decide +kernel)⟩
theorem lw_p58 : lw_okq (⟨"CertificateVaultModel", "listFor", "(IIJ)I"⟩, 27) := ⟨⟨by decide +kernel, by decide +kernel⟩, List.mem_of_getElem? (i := 717) (by decide +kernel), List.mem_of_getElem? (i := 1037) (by decide +kernel), List.mem_of_getElem? (i := 1038) (by decide +kernel)⟩
theorem lw_p59 : lw_okq (⟨"CertificateVaultModel", "isRevoked", "(IIJ)Z"⟩, 27) := ⟨⟨by decide +kernel, by decide +kernel⟩, List.mem_of_getElem? (i := 717) (by decide +kernel), List.mem_of_getElem? (i := 1041) (by decide +kernel), List.mem_of_getElem? (i := 1042) (by decide +kernel)⟩
theorem lw_p60 : lw_okq (⟨"CertificateVaultModel", "keptOut", "(II)Z"⟩, 27) := ⟨⟨by decide +kernel, by decide +kernel⟩, List.mem_of_getElem? (i := 717) (by decide +kernel), List.mem_of_getElem? (i := 1045) (by decide +kernel), List.mem_of_getElem? (i := 1046) (by decide +kernel)⟩
theorem lw_p61 : lw_okq (⟨"CertificateVaultModel", "between", "(I)I"⟩, 27) := ⟨⟨by decide +kernel, by decide +kernel⟩, List.mem_of_getElem? (i := 717) (by decide +kernel), List.mem_of_getElem? (i := 1052) (by decide +kernel), List.mem_of_getElem? (i := 1053) (by decide +kernel)⟩
theorem lw_p62 : lw_okq (⟨"CertificateVaultModel", "suits", "(II)Z"⟩, 27) := ⟨⟨by decide +kernel, by decide +kernel⟩, List.mem_of_getElem? (i := 717) (by decide +kernel), List.mem_of_getElem? (i := 1056) (by decide +kernel), List.mem_of_getElem? (i := 1057) (by decide +kernel)⟩
def lw_privs_4 : List (MethodName × Nat) := [(⟨"CertificateVaultModel", "done", "(I)V"⟩, 27), (⟨"CertificateVaultModel", "realm", "(I)V"⟩, 27), (⟨"CertificateVaultModel", "readList", "()V"⟩, 27), (⟨"CertificateVaultModel", "storeList", "()I"⟩, 27), (⟨"CertificateVaultModel", "of", "(II)J"⟩, 27), (⟨"CertificateVaultModel", "search", "(JIZ)I"⟩, 27), (⟨"CertificateVaultModel", "flag", "(IJ)Z"⟩, 27), (⟨"CertificateVaultModel", "holds", "(IJZ)Z"⟩, 27), (⟨"CertificateVaultModel", "against", "(IIJZ)I"⟩, 27), (⟨"CertificateVaultModel", "signedBy", "(JJI)Z"⟩, 27), (⟨"CertificateVaultModel", "listFor", "(IIJ)I"⟩, 27), (⟨"CertificateVaultModel", "isRevoked", "(IIJ)Z"⟩, 27), (⟨"CertificateVaultModel", "keptOut", "(II)Z"⟩, 27), (⟨"CertificateVaultModel", "between", "(I)I"⟩, 27), (⟨"CertificateVaultModel", "suits", "(II)Z"⟩, 27)]
theorem lw_r4 : ∀ q ∈ lw_privs_4, lw_okq q := List.forall_mem_cons.mpr ⟨lw_p48, List.forall_mem_cons.mpr ⟨lw_p49, List.forall_mem_cons.mpr ⟨lw_p50, List.forall_mem_cons.mpr ⟨lw_p51, List.forall_mem_cons.mpr ⟨lw_p52, List.forall_mem_cons.mpr ⟨lw_p53, List.forall_mem_cons.mpr ⟨lw_p54, List.forall_mem_cons.mpr ⟨lw_p55, List.forall_mem_cons.mpr ⟨lw_p56, List.forall_mem_cons.mpr ⟨lw_p57, List.forall_mem_cons.mpr ⟨lw_p58, List.forall_mem_cons.mpr ⟨lw_p59, List.forall_mem_cons.mpr ⟨lw_p60, List.forall_mem_cons.mpr ⟨lw_p61, List.forall_mem_cons.mpr ⟨lw_p62, fun _ h => absurd h List.not_mem_nil⟩⟩⟩⟩⟩⟩⟩⟩⟩⟩⟩⟩⟩⟩⟩
def lw_privs : List (MethodName × Nat) := lw_privs_1 ++ (lw_privs_2 ++ (lw_privs_3 ++ (lw_privs_4)))
def lw_tbl : List Cond := k2_sels lw_privs ++ tables_1
theorem lw_privs_ok : ∀ q ∈ lw_privs, lw_okq q := by
  show ∀ q ∈ lw_privs_1 ++ (lw_privs_2 ++ (lw_privs_3 ++ (lw_privs_4))), lw_okq q
  exact List.forall_mem_append.mpr ⟨lw_r1, List.forall_mem_append.mpr ⟨lw_r2, List.forall_mem_append.mpr ⟨lw_r3, lw_r4⟩⟩⟩
-- ===== end of PART A; then your names; then what follows =====
end
section
/-! Names, fields, codes of the classes (printed by wip/whole/all.py) -/
def zw_T : List Cond := lw_tbl.filter goodWord
theorem zw_in {w : Cond} {i : Nat} (h : lw_tbl[i]? = some w) (hg : goodWord w = true) : w ∈ zw_T := List.mem_filter.mpr ⟨List.mem_of_getElem? h, hg⟩
def zr_Certificate : String := "CertificateVault$Certificate"
def zr_Draft : String := "CertificateVault$Draft"
def zr_Names : String := "CertificateVault$Names"
def zr_Numbers : String := "CertificateVault$Numbers"
def zr_Reader : String := "CertificateVault$Reader"
def zr_RevokedList : String := "CertificateVault$RevokedList"
def zr_Search : String := "CertificateVault$Search"
def zr_Shelf : String := "CertificateVault$Shelf"
def zr_Signed : String := "CertificateVault$Signed"
def zr_Tool : String := "CertificateVault$Tool"
def zr_V : String := "CertificateVault"
def zr_L : String := "CertificateVaultLaw"
def zr_M : String := "CertificateVaultModel"
def za_Certificate : u_T := fun k => match k with
  | 0 => ("CertificateVault$Signed", "issuer", "J", false)
  | 1 => ("CertificateVault$Signed", "from", "J", false)
  | 2 => ("CertificateVault$Signed", "to", "J", false)
  | 3 => ("CertificateVault$Signed", "signature", "J", false)
  | 4 => ("CertificateVault$Signed", "hash", "I", false)
  | 5 => ("CertificateVault$Signed", "signers", "I", false)
  | 6 => ("CertificateVault$Certificate", "serial", "J", false)
  | 7 => ("CertificateVault$Certificate", "subject", "J", false)
  | 8 => ("CertificateVault$Certificate", "modulus", "J", false)
  | 9 => ("CertificateVault$Certificate", "exponent", "J", false)
  | 10 => ("CertificateVault$Certificate", "reach", "J", false)
  | 11 => ("CertificateVault$Certificate", "usage", "J", false)
  | 12 => ("CertificateVault$Certificate", "allowed", "J", false)
  | 13 => ("CertificateVault$Certificate", "barred", "J", false)
  | 14 => ("CertificateVault$Certificate", "extensions", "I", false)
  | 15 => ("CertificateVault$Certificate", "basic", "Z", false)
  | 16 => ("CertificateVault$Certificate", "authority", "Z", false)
  | 17 => ("CertificateVault$Certificate", "strange", "Z", false)
  | _ => ("CertificateVault$Certificate", "anchor", "Z", false)
def zy_Certificate : Nat → FieldType := fun k => match k with
  | 0 => .long
  | 1 => .long
  | 2 => .long
  | 3 => .long
  | 4 => .int
  | 5 => .int
  | 6 => .long
  | 7 => .long
  | 8 => .long
  | 9 => .long
  | 10 => .long
  | 11 => .long
  | 12 => .long
  | 13 => .long
  | 14 => .int
  | 15 => .boolean
  | 16 => .boolean
  | 17 => .boolean
  | _ => .boolean
theorem zj_Certificate : ∀ a, a < 19 → ∀ b, b < 19 → a ≠ b → (za_Certificate a).2.1 ≠ (za_Certificate b).2.1 := by decide +kernel
theorem zo_Certificate : ∀ k, k < 19 → parseFieldDescriptor (za_Certificate k).2.2.1 = some (zy_Certificate k) := by decide +kernel
theorem zi_Certificate : ∀ w ∈ u_ws zr_Certificate za_Certificate 19, w ∈ zw_T := fun w h => List.mem_filter.mpr ⟨(by decide +kernel : ∀ w ∈ u_ws zr_Certificate za_Certificate 19, w ∈ lw_tbl) w h, (by decide +kernel : ∀ w ∈ u_ws zr_Certificate za_Certificate 19, goodWord w = true) w h⟩
def za_Draft : u_T := fun k => match k with
  | 0 => ("CertificateVault$Draft", "bytes", "[I", true)
  | _ => ("CertificateVault$Draft", "size", "I", false)
def zy_Draft : Nat → FieldType := fun k => match k with
  | 0 => (.array .int)
  | _ => .int
theorem zj_Draft : ∀ a, a < 2 → ∀ b, b < 2 → a ≠ b → (za_Draft a).2.1 ≠ (za_Draft b).2.1 := by decide +kernel
theorem zo_Draft : ∀ k, k < 2 → parseFieldDescriptor (za_Draft k).2.2.1 = some (zy_Draft k) := by decide +kernel
theorem zi_Draft : ∀ w ∈ u_ws zr_Draft za_Draft 2, w ∈ zw_T := fun w h => List.mem_filter.mpr ⟨(by decide +kernel : ∀ w ∈ u_ws zr_Draft za_Draft 2, w ∈ lw_tbl) w h, (by decide +kernel : ∀ w ∈ u_ws zr_Draft za_Draft 2, goodWord w = true) w h⟩
def za_Reader : u_T := fun k => match k with
  | 0 => ("CertificateVault$Reader", "draft", "LCertificateVault$Draft;", true)
  | 1 => ("CertificateVault$Reader", "position", "I", false)
  | _ => ("CertificateVault$Reader", "fault", "I", false)
def zy_Reader : Nat → FieldType := fun k => match k with
  | 0 => .object zr_Draft
  | 1 => .int
  | _ => .int
theorem zj_Reader : ∀ a, a < 3 → ∀ b, b < 3 → a ≠ b → (za_Reader a).2.1 ≠ (za_Reader b).2.1 := by decide +kernel
theorem zo_Reader : ∀ k, k < 3 → parseFieldDescriptor (za_Reader k).2.2.1 = some (zy_Reader k) := by decide +kernel
theorem zi_Reader : ∀ w ∈ u_ws zr_Reader za_Reader 3, w ∈ zw_T := fun w h => List.mem_filter.mpr ⟨(by decide +kernel : ∀ w ∈ u_ws zr_Reader za_Reader 3, w ∈ lw_tbl) w h, (by decide +kernel : ∀ w ∈ u_ws zr_Reader za_Reader 3, goodWord w = true) w h⟩
def za_RevokedList : u_T := fun k => match k with
  | 0 => ("CertificateVault$Signed", "issuer", "J", false)
  | 1 => ("CertificateVault$Signed", "from", "J", false)
  | 2 => ("CertificateVault$Signed", "to", "J", false)
  | 3 => ("CertificateVault$Signed", "signature", "J", false)
  | 4 => ("CertificateVault$Signed", "hash", "I", false)
  | 5 => ("CertificateVault$Signed", "signers", "I", false)
  | 6 => ("CertificateVault$RevokedList", "serials", "[J", true)
  | 7 => ("CertificateVault$RevokedList", "dates", "[J", true)
  | _ => ("CertificateVault$RevokedList", "count", "I", false)
def zy_RevokedList : Nat → FieldType := fun k => match k with
  | 0 => .long
  | 1 => .long
  | 2 => .long
  | 3 => .long
  | 4 => .int
  | 5 => .int
  | 6 => (.array .long)
  | 7 => (.array .long)
  | _ => .int
theorem zj_RevokedList : ∀ a, a < 9 → ∀ b, b < 9 → a ≠ b → (za_RevokedList a).2.1 ≠ (za_RevokedList b).2.1 := by decide +kernel
theorem zo_RevokedList : ∀ k, k < 9 → parseFieldDescriptor (za_RevokedList k).2.2.1 = some (zy_RevokedList k) := by decide +kernel
theorem zi_RevokedList : ∀ w ∈ u_ws zr_RevokedList za_RevokedList 9, w ∈ zw_T := fun w h => List.mem_filter.mpr ⟨(by decide +kernel : ∀ w ∈ u_ws zr_RevokedList za_RevokedList 9, w ∈ lw_tbl) w h, (by decide +kernel : ∀ w ∈ u_ws zr_RevokedList za_RevokedList 9, goodWord w = true) w h⟩
def za_Search : u_T := fun k => match k with
  | 0 => ("CertificateVault$Search", "shelf", "LCertificateVault$Shelf;", true)
  | 1 => ("CertificateVault$Search", "time", "J", true)
  | 2 => ("CertificateVault$Search", "depth", "I", true)
  | 3 => ("CertificateVault$Search", "strictly", "Z", true)
  | 4 => ("CertificateVault$Search", "part", "[I", true)
  | 5 => ("CertificateVault$Search", "found", "I", false)
  | 6 => ("CertificateVault$Search", "reason", "I", false)
  | _ => ("CertificateVault$Search", "tried", "I", false)
def zy_Search : Nat → FieldType := fun k => match k with
  | 0 => .object zr_Shelf
  | 1 => .long
  | 2 => .int
  | 3 => .boolean
  | 4 => (.array .int)
  | 5 => .int
  | 6 => .int
  | _ => .int
theorem zj_Search : ∀ a, a < 8 → ∀ b, b < 8 → a ≠ b → (za_Search a).2.1 ≠ (za_Search b).2.1 := by decide +kernel
theorem zo_Search : ∀ k, k < 8 → parseFieldDescriptor (za_Search k).2.2.1 = some (zy_Search k) := by decide +kernel
theorem zi_Search : ∀ w ∈ u_ws zr_Search za_Search 8, w ∈ zw_T := fun w h => List.mem_filter.mpr ⟨(by decide +kernel : ∀ w ∈ u_ws zr_Search za_Search 8, w ∈ lw_tbl) w h, (by decide +kernel : ∀ w ∈ u_ws zr_Search za_Search 8, goodWord w = true) w h⟩
def za_Shelf : u_T := fun k => match k with
  | 0 => ("CertificateVault$Shelf", "certificates", "[LCertificateVault$Certificate;", true)
  | 1 => ("CertificateVault$Shelf", "lists", "[LCertificateVault$RevokedList;", true)
  | 2 => ("CertificateVault$Shelf", "certificateCount", "I", false)
  | _ => ("CertificateVault$Shelf", "listCount", "I", false)
def zy_Shelf : Nat → FieldType := fun k => match k with
  | 0 => (.array (.object zr_Certificate))
  | 1 => (.array (.object zr_RevokedList))
  | 2 => .int
  | _ => .int
theorem zj_Shelf : ∀ a, a < 4 → ∀ b, b < 4 → a ≠ b → (za_Shelf a).2.1 ≠ (za_Shelf b).2.1 := by decide +kernel
theorem zo_Shelf : ∀ k, k < 4 → parseFieldDescriptor (za_Shelf k).2.2.1 = some (zy_Shelf k) := by decide +kernel
theorem zi_Shelf : ∀ w ∈ u_ws zr_Shelf za_Shelf 4, w ∈ zw_T := fun w h => List.mem_filter.mpr ⟨(by decide +kernel : ∀ w ∈ u_ws zr_Shelf za_Shelf 4, w ∈ lw_tbl) w h, (by decide +kernel : ∀ w ∈ u_ws zr_Shelf za_Shelf 4, goodWord w = true) w h⟩
def za_Tool : u_T := fun k => match k with
  | 0 => ("CertificateVault$Tool", "fields", "[J", true)
  | 1 => ("CertificateVault$Tool", "serials", "[J", true)
  | 2 => ("CertificateVault$Tool", "dates", "[J", true)
  | _ => ("CertificateVault$Tool", "revoked", "I", false)
def zy_Tool : Nat → FieldType := fun k => match k with
  | 0 => (.array .long)
  | 1 => (.array .long)
  | 2 => (.array .long)
  | _ => .int
theorem zj_Tool : ∀ a, a < 4 → ∀ b, b < 4 → a ≠ b → (za_Tool a).2.1 ≠ (za_Tool b).2.1 := by decide +kernel
theorem zo_Tool : ∀ k, k < 4 → parseFieldDescriptor (za_Tool k).2.2.1 = some (zy_Tool k) := by decide +kernel
theorem zi_Tool : ∀ w ∈ u_ws zr_Tool za_Tool 4, w ∈ zw_T := fun w h => List.mem_filter.mpr ⟨(by decide +kernel : ∀ w ∈ u_ws zr_Tool za_Tool 4, w ∈ lw_tbl) w h, (by decide +kernel : ∀ w ∈ u_ws zr_Tool za_Tool 4, goodWord w = true) w h⟩
def za_V : u_T := fun k => match k with
  | 0 => ("CertificateVault", "draft", "LCertificateVault$Draft;", true)
  | 1 => ("CertificateVault", "tool", "LCertificateVault$Tool;", true)
  | 2 => ("CertificateVault", "shelf", "LCertificateVault$Shelf;", true)
  | _ => ("CertificateVault", "latest", "LCertificateVault$Search;", false)
def zy_V : Nat → FieldType := fun k => match k with
  | 0 => .object zr_Draft
  | 1 => .object zr_Tool
  | 2 => .object zr_Shelf
  | _ => .object zr_Search
theorem zj_V : ∀ a, a < 4 → ∀ b, b < 4 → a ≠ b → (za_V a).2.1 ≠ (za_V b).2.1 := by decide +kernel
theorem zo_V : ∀ k, k < 4 → parseFieldDescriptor (za_V k).2.2.1 = some (zy_V k) := by decide +kernel
theorem zi_V : ∀ w ∈ u_ws zr_V za_V 4, w ∈ zw_T := fun w h => List.mem_filter.mpr ⟨(by decide +kernel : ∀ w ∈ u_ws zr_V za_V 4, w ∈ lw_tbl) w h, (by decide +kernel : ∀ w ∈ u_ws zr_V za_V 4, goodWord w = true) w h⟩
def za_M : u_T := fun k => match k with
  | 0 => ("CertificateVaultModel", "draft", "[I", true)
  | 1 => ("CertificateVaultModel", "size", "I", false)
  | 2 => ("CertificateVaultModel", "field", "[J", true)
  | 3 => ("CertificateVaultModel", "marked", "I", false)
  | 4 => ("CertificateVaultModel", "serials", "[J", true)
  | 5 => ("CertificateVaultModel", "dates", "[J", true)
  | 6 => ("CertificateVaultModel", "modulus", "[J", true)
  | 7 => ("CertificateVaultModel", "exponent", "[J", true)
  | 8 => ("CertificateVaultModel", "secret", "[J", true)
  | 9 => ("CertificateVaultModel", "at", "I", false)
  | 10 => ("CertificateVaultModel", "fault", "I", false)
  | 11 => ("CertificateVaultModel", "read", "[J", true)
  | 12 => ("CertificateVaultModel", "entries", "I", false)
  | 13 => ("CertificateVaultModel", "entrySerial", "[J", true)
  | 14 => ("CertificateVaultModel", "entryDate", "[J", true)
  | 15 => ("CertificateVaultModel", "certificates", "I", false)
  | 16 => ("CertificateVaultModel", "stored", "[J", true)
  | 17 => ("CertificateVaultModel", "lists", "I", false)
  | 18 => ("CertificateVaultModel", "listed", "[J", true)
  | 19 => ("CertificateVaultModel", "revoked", "[J", true)
  | 20 => ("CertificateVaultModel", "since", "[J", true)
  | 21 => ("CertificateVaultModel", "part", "[I", true)
  | 22 => ("CertificateVaultModel", "looked", "[I", true)
  | 23 => ("CertificateVaultModel", "found", "[I", true)
  | 24 => ("CertificateVaultModel", "length", "I", false)
  | 25 => ("CertificateVaultModel", "candidates", "I", false)
  | _ => ("CertificateVaultModel", "reason", "I", false)
def zy_M : Nat → FieldType := fun k => match k with
  | 0 => (.array .int)
  | 1 => .int
  | 2 => (.array .long)
  | 3 => .int
  | 4 => (.array .long)
  | 5 => (.array .long)
  | 6 => (.array .long)
  | 7 => (.array .long)
  | 8 => (.array .long)
  | 9 => .int
  | 10 => .int
  | 11 => (.array .long)
  | 12 => .int
  | 13 => (.array .long)
  | 14 => (.array .long)
  | 15 => .int
  | 16 => (.array .long)
  | 17 => .int
  | 18 => (.array .long)
  | 19 => (.array .long)
  | 20 => (.array .long)
  | 21 => (.array .int)
  | 22 => (.array .int)
  | 23 => (.array .int)
  | 24 => .int
  | 25 => .int
  | _ => .int
theorem zj_M : ∀ a, a < 27 → ∀ b, b < 27 → a ≠ b → (za_M a).2.1 ≠ (za_M b).2.1 := by decide +kernel
theorem zo_M : ∀ k, k < 27 → parseFieldDescriptor (za_M k).2.2.1 = some (zy_M k) := by decide +kernel
theorem zi_M : ∀ w ∈ u_ws zr_M za_M 27, w ∈ zw_T := fun w h => List.mem_filter.mpr ⟨(by decide +kernel : ∀ w ∈ u_ws zr_M za_M 27, w ∈ lw_tbl) w h, (by decide +kernel : ∀ w ∈ u_ws zr_M za_M 27, goodWord w = true) w h⟩
abbrev classes : List vw_C := [(zr_Certificate, za_Certificate, 19), (zr_Draft, za_Draft, 2), (zr_Reader, za_Reader, 3), (zr_RevokedList, za_RevokedList, 9), (zr_Search, za_Search, 8), (zr_Shelf, za_Shelf, 4), (zr_Tool, za_Tool, 4), (zr_V, za_V, 4), (zr_M, za_M, 27)]
def zh_n : Nat → Nat
  | 0 => 19
  | 1 => 2
  | 2 => 3
  | 3 => 9
  | 4 => 8
  | 5 => 4
  | 6 => 4
  | 7 => 4
  | 8 => 27
  | _ => 0
def zh_f : Nat → Nat → Nat
  | 0, 0 => 1
  | 0, 1 => 1
  | 0, 2 => 1
  | 0, 3 => 1
  | 0, 6 => 1
  | 0, 7 => 1
  | 0, 8 => 1
  | 0, 9 => 1
  | 0, 10 => 1
  | 0, 11 => 1
  | 0, 12 => 1
  | 0, 13 => 1
  | 1, 0 => 2
  | 2, 0 => 2
  | 3, 0 => 1
  | 3, 1 => 1
  | 3, 2 => 1
  | 3, 3 => 1
  | 3, 6 => 2
  | 3, 7 => 2
  | 4, 0 => 2
  | 4, 1 => 1
  | 4, 4 => 2
  | 5, 0 => 2
  | 5, 1 => 2
  | 6, 0 => 2
  | 6, 1 => 2
  | 6, 2 => 2
  | 7, 0 => 2
  | 7, 1 => 2
  | 7, 2 => 2
  | 7, 3 => 2
  | 8, 0 => 2
  | 8, 2 => 2
  | 8, 4 => 2
  | 8, 5 => 2
  | 8, 6 => 2
  | 8, 7 => 2
  | 8, 8 => 2
  | 8, 11 => 2
  | 8, 13 => 2
  | 8, 14 => 2
  | 8, 16 => 2
  | 8, 18 => 2
  | 8, 19 => 2
  | 8, 20 => 2
  | 8, 21 => 2
  | 8, 22 => 2
  | 8, 23 => 2
  | _, _ => 0
abbrev ze_Draft_init : ByteArray := prog_3_method_1_code
def zn_Draft_init : MethodName := ⟨zr_Draft, "<init>", "()V"⟩
def zs_Draft_init : List Cond := .code zn_Draft_init ze_Draft_init 1 none :: zw_T
abbrev ze_Tool_init : ByteArray := prog_11_method_1_code
def zn_Tool_init : MethodName := ⟨zr_Tool, "<init>", "()V"⟩
def zs_Tool_init : List Cond := .code zn_Tool_init ze_Tool_init 1 none :: zw_T
abbrev ze_Signed_init : ByteArray := prog_10_method_1_code
def zn_Signed_init : MethodName := ⟨zr_Signed, "<init>", "()V"⟩
def zs_Signed_init : List Cond := .code zn_Signed_init ze_Signed_init 1 none :: zw_T
abbrev ze_RevokedList_init : ByteArray := prog_7_method_1_code
def zn_RevokedList_init : MethodName := ⟨zr_RevokedList, "<init>", "()V"⟩
def zs_RevokedList_init : List Cond := .code zn_RevokedList_init ze_RevokedList_init 1 none :: zw_T
abbrev ze_Certificate_init : ByteArray := prog_2_method_1_code
def zn_Certificate_init : MethodName := ⟨zr_Certificate, "<init>", "()V"⟩
def zs_Certificate_init : List Cond := .code zn_Certificate_init ze_Certificate_init 1 none :: zw_T
abbrev ze_Shelf_init : ByteArray := prog_9_method_1_code
def zn_Shelf_init : MethodName := ⟨zr_Shelf, "<init>", "()V"⟩
def zs_Shelf_init : List Cond := .code zn_Shelf_init ze_Shelf_init 2 none :: zw_T
abbrev ze_V_init : ByteArray := prog_1_method_1_code
def zn_V_init : MethodName := ⟨zr_V, "<init>", "()V"⟩
def zs_V_init : List Cond := .code zn_V_init ze_V_init 1 none :: zw_T
abbrev ze_M_init : ByteArray := prog_13_method_1_code
def zn_M_init : MethodName := ⟨zr_M, "<init>", "()V"⟩
def zs_M_init : List Cond := .code zn_M_init ze_M_init 1 none :: zw_T
abbrev ze_Numbers_lift : ByteArray := prog_5_method_8_code
def zn_Numbers_lift : MethodName := ⟨zr_Numbers, "lift", "(JJ)J"⟩
def zs_Numbers_lift : List Cond := .code zn_Numbers_lift ze_Numbers_lift 6 (some .long) :: zw_T
abbrev ze_Numbers_times : ByteArray := prog_5_method_7_code
def zn_Numbers_times : MethodName := ⟨zr_Numbers, "times", "(JJJ)J"⟩
def zs_Numbers_times : List Cond := .code zn_Numbers_times ze_Numbers_times 20 (some .long) :: zw_T
abbrev ze_Numbers_power : ByteArray := prog_5_method_6_code
def zn_Numbers_power : MethodName := ⟨zr_Numbers, "power", "(JJJ)J"⟩
def zs_Numbers_power : List Cond := .code zn_Numbers_power ze_Numbers_power 12 (some .long) :: zw_T
abbrev ze_Numbers_block : ByteArray := prog_5_method_5_code
def zn_Numbers_block : MethodName := ⟨zr_Numbers, "block", "(I)J"⟩
def zs_Numbers_block : List Cond := .code zn_Numbers_block ze_Numbers_block 1 (some .long) :: zw_T
abbrev ze_Numbers_isGood : ByteArray := prog_5_method_4_code
def zn_Numbers_isGood : MethodName := ⟨zr_Numbers, "isGood", "(JJJI)Z"⟩
def zs_Numbers_isGood : List Cond := .code zn_Numbers_isGood ze_Numbers_isGood 7 (some .boolean) :: zw_T
abbrev ze_V_good : ByteArray := prog_1_method_19_code
def zn_V_good : MethodName := ⟨zr_V, "good", "(JJJI)Z"⟩
def zs_V_good : List Cond := .code zn_V_good ze_V_good 8 (some .boolean) :: zw_T
abbrev ze_M_in : ByteArray := prog_13_method_2_code
def zn_M_in : MethodName := ⟨zr_M, "in", "(JJJ)Z"⟩
def zs_M_in : List Cond := .code zn_M_in ze_M_in 6 (some .boolean) :: zw_T
abbrev ze_M_block : ByteArray := prog_13_method_5_code
def zn_M_block : MethodName := ⟨zr_M, "block", "(I)J"⟩
def zs_M_block : List Cond := .code zn_M_block ze_M_block 1 (some .long) :: zw_T
abbrev ze_M_times : ByteArray := prog_13_method_3_code
def zn_M_times : MethodName := ⟨zr_M, "times", "(JJJ)J"⟩
def zs_M_times : List Cond := .code zn_M_times ze_M_times 12 (some .long) :: zw_T
abbrev ze_M_power : ByteArray := prog_13_method_4_code
def zn_M_power : MethodName := ⟨zr_M, "power", "(JJJ)J"⟩
def zs_M_power : List Cond := .code zn_M_power ze_M_power 12 (some .long) :: zw_T
abbrev ze_M_good : ByteArray := prog_13_method_8_code
def zn_M_good : MethodName := ⟨zr_M, "good", "(JJJI)Z"⟩
def zs_M_good : List Cond := .code zn_M_good ze_M_good 10 (some .boolean) :: zw_T
abbrev ze_Numbers_isKey : ByteArray := prog_5_method_2_code
def zn_Numbers_isKey : MethodName := ⟨zr_Numbers, "isKey", "(J)Z"⟩
def zs_Numbers_isKey : List Cond := .code zn_Numbers_isKey ze_Numbers_isKey 2 (some .boolean) :: zw_T
abbrev ze_Numbers_signature : ByteArray := prog_5_method_3_code
def zn_Numbers_signature : MethodName := ⟨zr_Numbers, "signature", "(II)J"⟩
def zs_Numbers_signature : List Cond := .code zn_Numbers_signature ze_Numbers_signature 2 (some .long) :: zw_T
abbrev ze_V_sign : ByteArray := prog_1_method_18_code
def zn_V_sign : MethodName := ⟨zr_V, "sign", "(II)J"⟩
def zs_V_sign : List Cond := .code zn_V_sign ze_V_sign 3 (some .long) :: zw_T
abbrev ze_M_sign : ByteArray := prog_13_method_7_code
def zn_M_sign : MethodName := ⟨zr_M, "sign", "(II)J"⟩
def zs_M_sign : List Cond := .code zn_M_sign ze_M_sign 5 (some .long) :: zw_T
abbrev ze_V_candidates : ByteArray := prog_1_method_17_code
def zn_V_candidates : MethodName := ⟨zr_V, "candidates", "()I"⟩
def zs_V_candidates : List Cond := .code zn_V_candidates ze_V_candidates 1 (some .int) :: zw_T
abbrev ze_M_candidates : ByteArray := prog_13_method_59_code
def zn_M_candidates : MethodName := ⟨zr_M, "candidates", "()I"⟩
def zs_M_candidates : List Cond := .code zn_M_candidates ze_M_candidates 1 (some .int) :: zw_T
abbrev ze_Search_foundAt : ByteArray := prog_8_method_3_code
def zn_Search_foundAt : MethodName := ⟨zr_Search, "foundAt", "(I)I"⟩
def zs_Search_foundAt : List Cond := .code zn_Search_foundAt ze_Search_foundAt 2 (some .int) :: zw_T
abbrev ze_V_chain : ByteArray := prog_1_method_16_code
def zn_V_chain : MethodName := ⟨zr_V, "chain", "(I)I"⟩
def zs_V_chain : List Cond := .code zn_V_chain ze_V_chain 2 (some .int) :: zw_T
abbrev ze_M_chain : ByteArray := prog_13_method_58_code
def zn_M_chain : MethodName := ⟨zr_M, "chain", "(I)I"⟩
def zs_M_chain : List Cond := .code zn_M_chain ze_M_chain 2 (some .int) :: zw_T
abbrev ze_Shelf_hasCertificate : ByteArray := prog_9_method_2_code
def zn_Shelf_hasCertificate : MethodName := ⟨zr_Shelf, "hasCertificate", "(I)Z"⟩
def zs_Shelf_hasCertificate : List Cond := .code zn_Shelf_hasCertificate ze_Shelf_hasCertificate 2 (some .boolean) :: zw_T
abbrev ze_Search_init : ByteArray := prog_8_method_1_code
def zn_Search_init : MethodName := ⟨zr_Search, "<init>", "(LCertificateVault$Shelf;JIZ)V"⟩
def zs_Search_init : List Cond := .code zn_Search_init ze_Search_init 6 none :: zw_T
abbrev ze_Search_inPart : ByteArray := prog_8_method_7_code
def zn_Search_inPart : MethodName := ⟨zr_Search, "inPart", "(I)LCertificateVault$Certificate;"⟩
def zs_Search_inPart : List Cond := .code zn_Search_inPart ze_Search_inPart 2 (some (.object "CertificateVault$Certificate")) :: zw_T
abbrev ze_Search_isInPart : ByteArray := prog_8_method_6_code
def zn_Search_isInPart : MethodName := ⟨zr_Search, "isInPart", "(II)Z"⟩
def zs_Search_isInPart : List Cond := .code zn_Search_isInPart ze_Search_isInPart 4 (some .boolean) :: zw_T
abbrev ze_Search_goThrough : ByteArray := prog_8_method_5_code
def zn_Search_goThrough : MethodName := ⟨zr_Search, "goThrough", "(IZ)Z"⟩
def zs_Search_goThrough : List Cond := .code zn_Search_goThrough ze_Search_goThrough 7 (some .boolean) :: zw_T
abbrev ze_Signed_isSignedBy : ByteArray := prog_10_method_3_code
def zn_Signed_isSignedBy : MethodName := ⟨zr_Signed, "isSignedBy", "(I)Z"⟩
def zs_Signed_isSignedBy : List Cond := .code zn_Signed_isSignedBy ze_Signed_isSignedBy 2 (some .boolean) :: zw_T
abbrev ze_Signed_isTimely : ByteArray := prog_10_method_2_code
def zn_Signed_isTimely : MethodName := ⟨zr_Signed, "isTimely", "(J)Z"⟩
def zs_Signed_isTimely : List Cond := .code zn_Signed_isTimely ze_Signed_isTimely 3 (some .boolean) :: zw_T
abbrev ze_Certificate_isFitFor : ByteArray := prog_2_method_4_code
def zn_Certificate_isFitFor : MethodName := ⟨zr_Certificate, "isFitFor", "(I)Z"⟩
def zs_Certificate_isFitFor : List Cond := .code zn_Certificate_isFitFor ze_Certificate_isFitFor 2 (some .boolean) :: zw_T
abbrev ze_Search_takeList : ByteArray := prog_8_method_10_code
def zn_Search_takeList : MethodName := ⟨zr_Search, "takeList", "(LCertificateVault$Certificate;I)LCertificateVault$RevokedList;"⟩
def zs_Search_takeList : List Cond := .code zn_Search_takeList ze_Search_takeList 6 (some (.object "CertificateVault$RevokedList")) :: zw_T
abbrev ze_Names_isWithin : ByteArray := prog_4_method_3_code
def zn_Names_isWithin : MethodName := ⟨zr_Names, "isWithin", "(JJ)Z"⟩
def zs_Names_isWithin : List Cond := .code zn_Names_isWithin ze_Names_isWithin 8 (some .boolean) :: zw_T
abbrev ze_Search_isInRealms : ByteArray := prog_8_method_11_code
def zn_Search_isInRealms : MethodName := ⟨zr_Search, "isInRealms", "(II)Z"⟩
def zs_Search_isInRealms : List Cond := .code zn_Search_isInRealms ze_Search_isInRealms 7 (some .boolean) :: zw_T
abbrev ze_Certificate_isSelfIssued : ByteArray := prog_2_method_3_code
def zn_Certificate_isSelfIssued : MethodName := ⟨zr_Certificate, "isSelfIssued", "()Z"⟩
def zs_Certificate_isSelfIssued : List Cond := .code zn_Certificate_isSelfIssued ze_Certificate_isSelfIssued 1 (some .boolean) :: zw_T
abbrev ze_Search_countBefore : ByteArray := prog_8_method_12_code
def zn_Search_countBefore : MethodName := ⟨zr_Search, "countBefore", "(I)I"⟩
def zs_Search_countBefore : List Cond := .code zn_Search_countBefore ze_Search_countBefore 4 (some .int) :: zw_T
abbrev ze_RevokedList_revokes : ByteArray := prog_7_method_2_code
def zn_RevokedList_revokes : MethodName := ⟨zr_RevokedList, "revokes", "(JJ)Z"⟩
def zs_RevokedList_revokes : List Cond := .code zn_RevokedList_revokes ze_RevokedList_revokes 6 (some .boolean) :: zw_T
abbrev ze_Search_reasonAgainst : ByteArray := prog_8_method_9_code
def zn_Search_reasonAgainst : MethodName := ⟨zr_Search, "reasonAgainst", "(II)I"⟩
def zs_Search_reasonAgainst : List Cond := .code zn_Search_reasonAgainst ze_Search_reasonAgainst 5 (some .int) :: zw_T
abbrev ze_Search_tryCandidate : ByteArray := prog_8_method_8_code
def zn_Search_tryCandidate : MethodName := ⟨zr_Search, "tryCandidate", "(I)Z"⟩
def zs_Search_tryCandidate : List Cond := .code zn_Search_tryCandidate ze_Search_tryCandidate 3 (some .boolean) :: zw_T
abbrev ze_Search_goOn : ByteArray := prog_8_method_4_code
def zn_Search_goOn : MethodName := ⟨zr_Search, "goOn", "(I)Z"⟩
def zs_Search_goOn : List Cond := .code zn_Search_goOn ze_Search_goOn 2 (some .boolean) :: zw_T
abbrev ze_Search_lookFor : ByteArray := prog_8_method_2_code
def zn_Search_lookFor : MethodName := ⟨zr_Search, "lookFor", "(I)I"⟩
def zs_Search_lookFor : List Cond := .code zn_Search_lookFor ze_Search_lookFor 2 (some .int) :: zw_T
abbrev ze_V_validate : ByteArray := prog_1_method_15_code
def zn_V_validate : MethodName := ⟨zr_V, "validate", "(IJIZ)I"⟩
def zs_V_validate : List Cond := .code zn_V_validate ze_V_validate 6 (some .int) :: zw_T
abbrev ze_M_of : ByteArray := prog_13_method_46_code
def zn_M_of : MethodName := ⟨zr_M, "of", "(II)J"⟩
def zs_M_of : List Cond := .code zn_M_of ze_M_of 3 (some .long) :: zw_T
abbrev ze_M_flag : ByteArray := prog_13_method_47_code
def zn_M_flag : MethodName := ⟨zr_M, "flag", "(IJ)Z"⟩
def zs_M_flag : List Cond := .code zn_M_flag ze_M_flag 4 (some .boolean) :: zw_T
abbrev ze_M_suits : ByteArray := prog_13_method_55_code
def zn_M_suits : MethodName := ⟨zr_M, "suits", "(II)Z"⟩
def zs_M_suits : List Cond := .code zn_M_suits ze_M_suits 6 (some .boolean) :: zw_T
abbrev ze_M_signedBy : ByteArray := prog_13_method_48_code
def zn_M_signedBy : MethodName := ⟨zr_M, "signedBy", "(JJI)Z"⟩
def zs_M_signedBy : List Cond := .code zn_M_signedBy ze_M_signedBy 6 (some .boolean) :: zw_T
abbrev ze_M_listFor : ByteArray := prog_13_method_49_code
def zn_M_listFor : MethodName := ⟨zr_M, "listFor", "(IIJ)I"⟩
def zs_M_listFor : List Cond := .code zn_M_listFor ze_M_listFor 11 (some .int) :: zw_T
abbrev ze_M_isRevoked : ByteArray := prog_13_method_50_code
def zn_M_isRevoked : MethodName := ⟨zr_M, "isRevoked", "(IIJ)Z"⟩
def zs_M_isRevoked : List Cond := .code zn_M_isRevoked ze_M_isRevoked 7 (some .boolean) :: zw_T
abbrev ze_M_letters : ByteArray := prog_13_method_9_code
def zn_M_letters : MethodName := ⟨zr_M, "letters", "(J)I"⟩
def zs_M_letters : List Cond := .code zn_M_letters ze_M_letters 3 (some .int) :: zw_T
abbrev ze_M_within : ByteArray := prog_13_method_11_code
def zn_M_within : MethodName := ⟨zr_M, "within", "(JJ)Z"⟩
def zs_M_within : List Cond := .code zn_M_within ze_M_within 5 (some .boolean) :: zw_T
abbrev ze_M_keptOut : ByteArray := prog_13_method_51_code
def zn_M_keptOut : MethodName := ⟨zr_M, "keptOut", "(II)Z"⟩
def zs_M_keptOut : List Cond := .code zn_M_keptOut ze_M_keptOut 11 (some .boolean) :: zw_T
abbrev ze_M_between : ByteArray := prog_13_method_52_code
def zn_M_between : MethodName := ⟨zr_M, "between", "(I)I"⟩
def zs_M_between : List Cond := .code zn_M_between ze_M_between 4 (some .int) :: zw_T
abbrev ze_M_against : ByteArray := prog_13_method_53_code
def zn_M_against : MethodName := ⟨zr_M, "against", "(IIJZ)I"⟩
def zs_M_against : List Cond := .code zn_M_against ze_M_against 9 (some .int) :: zw_T
abbrev ze_M_holds : ByteArray := prog_13_method_54_code
def zn_M_holds : MethodName := ⟨zr_M, "holds", "(IJZ)Z"⟩
def zs_M_holds : List Cond := .code zn_M_holds ze_M_holds 6 (some .boolean) :: zw_T
abbrev ze_M_search : ByteArray := prog_13_method_56_code
def zn_M_search : MethodName := ⟨zr_M, "search", "(JIZ)I"⟩
def zs_M_search : List Cond := .code zn_M_search ze_M_search 9 (some .int) :: zw_T
abbrev ze_M_validate : ByteArray := prog_13_method_57_code
def zn_M_validate : MethodName := ⟨zr_M, "validate", "(IJIZ)I"⟩
def zs_M_validate : List Cond := .code zn_M_validate ze_M_validate 7 (some .int) :: zw_T
abbrev ze_RevokedList_tell : ByteArray := prog_7_method_3_code
def zn_RevokedList_tell : MethodName := ⟨zr_RevokedList, "tell", "(I)J"⟩
def zs_RevokedList_tell : List Cond := .code zn_RevokedList_tell ze_RevokedList_tell 2 (some .long) :: zw_T
abbrev ze_V_list : ByteArray := prog_1_method_14_code
def zn_V_list : MethodName := ⟨zr_V, "list", "(II)J"⟩
def zs_V_list : List Cond := .code zn_V_list ze_V_list 3 (some .long) :: zw_T
abbrev ze_M_list : ByteArray := prog_13_method_45_code
def zn_M_list : MethodName := ⟨zr_M, "list", "(II)J"⟩
def zs_M_list : List Cond := .code zn_M_list ze_M_list 3 (some .long) :: zw_T
abbrev ze_Certificate_tell : ByteArray := prog_2_method_5_code
def zn_Certificate_tell : MethodName := ⟨zr_Certificate, "tell", "(I)J"⟩
def zs_Certificate_tell : List Cond := .code zn_Certificate_tell ze_Certificate_tell 2 (some .long) :: zw_T
abbrev ze_V_certificate : ByteArray := prog_1_method_13_code
def zn_V_certificate : MethodName := ⟨zr_V, "certificate", "(II)J"⟩
def zs_V_certificate : List Cond := .code zn_V_certificate ze_V_certificate 3 (some .long) :: zw_T
abbrev ze_M_certificate : ByteArray := prog_13_method_44_code
def zn_M_certificate : MethodName := ⟨zr_M, "certificate", "(II)J"⟩
def zs_M_certificate : List Cond := .code zn_M_certificate ze_M_certificate 5 (some .long) :: zw_T
abbrev ze_Reader_init : ByteArray := prog_6_method_1_code
def zn_Reader_init : MethodName := ⟨zr_Reader, "<init>", "(LCertificateVault$Draft;)V"⟩
def zs_Reader_init : List Cond := .code zn_Reader_init ze_Reader_init 2 none :: zw_T
abbrev ze_Shelf_nextCertificate : ByteArray := prog_9_method_3_code
def zn_Shelf_nextCertificate : MethodName := ⟨zr_Shelf, "nextCertificate", "()LCertificateVault$Certificate;"⟩
def zs_Shelf_nextCertificate : List Cond := .code zn_Shelf_nextCertificate ze_Shelf_nextCertificate 1 (some (.object "CertificateVault$Certificate")) :: zw_T
abbrev ze_Certificate_forget : ByteArray := prog_2_method_2_code
def zn_Certificate_forget : MethodName := ⟨zr_Certificate, "forget", "()V"⟩
def zs_Certificate_forget : List Cond := .code zn_Certificate_forget ze_Certificate_forget 1 none :: zw_T
abbrev ze_Reader_fail : ByteArray := prog_6_method_18_code
def zn_Reader_fail : MethodName := ⟨zr_Reader, "fail", "(II)I"⟩
def zs_Reader_fail : List Cond := .code zn_Reader_fail ze_Reader_fail 3 (some .int) :: zw_T
abbrev ze_Reader_open : ByteArray := prog_6_method_16_code
def zn_Reader_open : MethodName := ⟨zr_Reader, "open", "(II)I"⟩
def zs_Reader_open : List Cond := .code zn_Reader_open ze_Reader_open 5 (some .int) :: zw_T
abbrev ze_Reader_isInteger : ByteArray := prog_6_method_12_code
def zn_Reader_isInteger : MethodName := ⟨zr_Reader, "isInteger", "(I)Z"⟩
def zs_Reader_isInteger : List Cond := .code zn_Reader_isInteger ze_Reader_isInteger 4 (some .boolean) :: zw_T
abbrev ze_Reader_readInteger : ByteArray := prog_6_method_11_code
def zn_Reader_readInteger : MethodName := ⟨zr_Reader, "readInteger", "(I)J"⟩
def zs_Reader_readInteger : List Cond := .code zn_Reader_readInteger ze_Reader_readInteger 6 (some .long) :: zw_T
abbrev ze_Names_isName : ByteArray := prog_4_method_2_code
def zn_Names_isName : MethodName := ⟨zr_Names, "isName", "(J)Z"⟩
def zs_Names_isName : List Cond := .code zn_Names_isName ze_Names_isName 6 (some .boolean) :: zw_T
abbrev ze_Names_fromAscii : ByteArray := prog_4_method_6_code
def zn_Names_fromAscii : MethodName := ⟨zr_Names, "fromAscii", "(I)I"⟩
def zs_Names_fromAscii : List Cond := .code zn_Names_fromAscii ze_Names_fromAscii 1 (some .int) :: zw_T
abbrev ze_Reader_readName : ByteArray := prog_6_method_13_code
def zn_Reader_readName : MethodName := ⟨zr_Reader, "readName", "(II)J"⟩
def zs_Reader_readName : List Cond := .code zn_Reader_readName ze_Reader_readName 8 (some .long) :: zw_T
abbrev ze_Reader_isNext : ByteArray := prog_6_method_15_code
def zn_Reader_isNext : MethodName := ⟨zr_Reader, "isNext", "(II)Z"⟩
def zs_Reader_isNext : List Cond := .code zn_Reader_isNext ze_Reader_isNext 3 (some .boolean) :: zw_T
abbrev ze_Reader_close : ByteArray := prog_6_method_17_code
def zn_Reader_close : MethodName := ⟨zr_Reader, "close", "(I)V"⟩
def zs_Reader_close : List Cond := .code zn_Reader_close ze_Reader_close 2 none :: zw_T
abbrev ze_Draft_hash : ByteArray := prog_3_method_10_code
def zn_Draft_hash : MethodName := ⟨zr_Draft, "hash", "(II)I"⟩
def zs_Draft_hash : List Cond := .code zn_Draft_hash ze_Draft_hash 5 (some .int) :: zw_T
abbrev ze_Reader_readSignature : ByteArray := prog_6_method_4_code
def zn_Reader_readSignature : MethodName := ⟨zr_Reader, "readSignature", "(LCertificateVault$Signed;II)V"⟩
def zs_Reader_readSignature : List Cond := .code zn_Reader_readSignature ze_Reader_readSignature 4 none :: zw_T
abbrev ze_Reader_readFlag : ByteArray := prog_6_method_14_code
def zn_Reader_readFlag : MethodName := ⟨zr_Reader, "readFlag", "(I)Z"⟩
def zs_Reader_readFlag : List Cond := .code zn_Reader_readFlag ze_Reader_readFlag 4 (some .boolean) :: zw_T
abbrev ze_Reader_skipOpaque : ByteArray := prog_6_method_10_code
def zn_Reader_skipOpaque : MethodName := ⟨zr_Reader, "skipOpaque", "(I)V"⟩
def zs_Reader_skipOpaque : List Cond := .code zn_Reader_skipOpaque ze_Reader_skipOpaque 3 none :: zw_T
abbrev ze_Reader_readRealm : ByteArray := prog_6_method_9_code
def zn_Reader_readRealm : MethodName := ⟨zr_Reader, "readRealm", "(LCertificateVault$Certificate;I)V"⟩
def zs_Reader_readRealm : List Cond := .code zn_Reader_readRealm ze_Reader_readRealm 5 none :: zw_T
abbrev ze_Reader_readUsage : ByteArray := prog_6_method_8_code
def zn_Reader_readUsage : MethodName := ⟨zr_Reader, "readUsage", "(LCertificateVault$Certificate;I)V"⟩
def zs_Reader_readUsage : List Cond := .code zn_Reader_readUsage ze_Reader_readUsage 6 none :: zw_T
abbrev ze_Reader_readBasic : ByteArray := prog_6_method_7_code
def zn_Reader_readBasic : MethodName := ⟨zr_Reader, "readBasic", "(LCertificateVault$Certificate;I)V"⟩
def zs_Reader_readBasic : List Cond := .code zn_Reader_readBasic ze_Reader_readBasic 4 none :: zw_T
abbrev ze_Reader_readExtension : ByteArray := prog_6_method_6_code
def zn_Reader_readExtension : MethodName := ⟨zr_Reader, "readExtension", "(LCertificateVault$Certificate;JI)J"⟩
def zs_Reader_readExtension : List Cond := .code zn_Reader_readExtension ze_Reader_readExtension 10 (some .long) :: zw_T
abbrev ze_Reader_readExtensions : ByteArray := prog_6_method_5_code
def zn_Reader_readExtensions : MethodName := ⟨zr_Reader, "readExtensions", "(LCertificateVault$Certificate;I)V"⟩
def zs_Reader_readExtensions : List Cond := .code zn_Reader_readExtensions ze_Reader_readExtensions 7 none :: zw_T
abbrev ze_Reader_readCertificate : ByteArray := prog_6_method_2_code
def zn_Reader_readCertificate : MethodName := ⟨zr_Reader, "readCertificate", "(LCertificateVault$Certificate;)I"⟩
def zs_Reader_readCertificate : List Cond := .code zn_Reader_readCertificate ze_Reader_readCertificate 5 (some .int) :: zw_T
abbrev ze_Signed_noteSigner : ByteArray := prog_10_method_4_code
def zn_Signed_noteSigner : MethodName := ⟨zr_Signed, "noteSigner", "(ILCertificateVault$Certificate;)V"⟩
def zs_Signed_noteSigner : List Cond := .code zn_Signed_noteSigner ze_Signed_noteSigner 3 none :: zw_T
abbrev ze_Shelf_keepCertificate : ByteArray := prog_9_method_5_code
def zn_Shelf_keepCertificate : MethodName := ⟨zr_Shelf, "keepCertificate", "(Z)I"⟩
def zs_Shelf_keepCertificate : List Cond := .code zn_Shelf_keepCertificate ze_Shelf_keepCertificate 5 (some .int) :: zw_T
abbrev ze_Shelf_nextList : ByteArray := prog_9_method_4_code
def zn_Shelf_nextList : MethodName := ⟨zr_Shelf, "nextList", "()LCertificateVault$RevokedList;"⟩
def zs_Shelf_nextList : List Cond := .code zn_Shelf_nextList ze_Shelf_nextList 1 (some (.object "CertificateVault$RevokedList")) :: zw_T
abbrev ze_Reader_readList : ByteArray := prog_6_method_3_code
def zn_Reader_readList : MethodName := ⟨zr_Reader, "readList", "(LCertificateVault$RevokedList;)I"⟩
def zs_Reader_readList : List Cond := .code zn_Reader_readList ze_Reader_readList 8 (some .int) :: zw_T
abbrev ze_Shelf_keepList : ByteArray := prog_9_method_6_code
def zn_Shelf_keepList : MethodName := ⟨zr_Shelf, "keepList", "()I"⟩
def zs_Shelf_keepList : List Cond := .code zn_Shelf_keepList ze_Shelf_keepList 3 (some .int) :: zw_T
abbrev ze_V_store : ByteArray := prog_1_method_12_code
def zn_V_store : MethodName := ⟨zr_V, "store", "(I)I"⟩
def zs_V_store : List Cond := .code zn_V_store ze_V_store 4 (some .int) :: zw_T
abbrev ze_M_fails : ByteArray := prog_13_method_29_code
def zn_M_fails : MethodName := ⟨zr_M, "fails", "(II)V"⟩
def zs_M_fails : List Cond := .code zn_M_fails ze_M_fails 3 none :: zw_T
abbrev ze_M_head : ByteArray := prog_13_method_31_code
def zn_M_head : MethodName := ⟨zr_M, "head", "(II)I"⟩
def zs_M_head : List Cond := .code zn_M_head ze_M_head 6 (some .int) :: zw_T
abbrev ze_M_isName : ByteArray := prog_13_method_10_code
def zn_M_isName : MethodName := ⟨zr_M, "isName", "(J)Z"⟩
def zs_M_isName : List Cond := .code zn_M_isName ze_M_isName 8 (some .boolean) :: zw_T
abbrev ze_M_title : ByteArray := prog_13_method_35_code
def zn_M_title : MethodName := ⟨zr_M, "title", "(II)J"⟩
def zs_M_title : List Cond := .code zn_M_title ze_M_title 10 (some .long) :: zw_T
abbrev ze_M_number : ByteArray := prog_13_method_33_code
def zn_M_number : MethodName := ⟨zr_M, "number", "(I)J"⟩
def zs_M_number : List Cond := .code zn_M_number ze_M_number 9 (some .long) :: zw_T
abbrev ze_M_done : ByteArray := prog_13_method_32_code
def zn_M_done : MethodName := ⟨zr_M, "done", "(I)V"⟩
def zs_M_done : List Cond := .code zn_M_done ze_M_done 2 none :: zw_T
abbrev ze_M_hash : ByteArray := prog_13_method_6_code
def zn_M_hash : MethodName := ⟨zr_M, "hash", "(II)I"⟩
def zs_M_hash : List Cond := .code zn_M_hash ze_M_hash 5 (some .int) :: zw_T
abbrev ze_M_next : ByteArray := prog_13_method_30_code
def zn_M_next : MethodName := ⟨zr_M, "next", "(II)Z"⟩
def zs_M_next : List Cond := .code zn_M_next ze_M_next 3 (some .boolean) :: zw_T
abbrev ze_M_readList : ByteArray := prog_13_method_40_code
def zn_M_readList : MethodName := ⟨zr_M, "readList", "()V"⟩
def zs_M_readList : List Cond := .code zn_M_readList ze_M_readList 6 none :: zw_T
abbrev ze_M_realm : ByteArray := prog_13_method_37_code
def zn_M_realm : MethodName := ⟨zr_M, "realm", "(I)V"⟩
def zs_M_realm : List Cond := .code zn_M_realm ze_M_realm 4 none :: zw_T
abbrev ze_M_truth : ByteArray := prog_13_method_34_code
def zn_M_truth : MethodName := ⟨zr_M, "truth", "(I)V"⟩
def zs_M_truth : List Cond := .code zn_M_truth ze_M_truth 4 none :: zw_T
abbrev ze_M_basic : ByteArray := prog_13_method_36_code
def zn_M_basic : MethodName := ⟨zr_M, "basic", "(I)V"⟩
def zs_M_basic : List Cond := .code zn_M_basic ze_M_basic 3 none :: zw_T
abbrev ze_M_extension : ByteArray := prog_13_method_38_code
def zn_M_extension : MethodName := ⟨zr_M, "extension", "(JI)J"⟩
def zs_M_extension : List Cond := .code zn_M_extension ze_M_extension 11 (some .long) :: zw_T
abbrev ze_M_readCertificate : ByteArray := prog_13_method_39_code
def zn_M_readCertificate : MethodName := ⟨zr_M, "readCertificate", "()V"⟩
def zs_M_readCertificate : List Cond := .code zn_M_readCertificate ze_M_readCertificate 8 none :: zw_T
abbrev ze_M_check : ByteArray := prog_13_method_41_code
def zn_M_check : MethodName := ⟨zr_M, "check", "(Z)I"⟩
def zs_M_check : List Cond := .code zn_M_check ze_M_check 2 (some .int) :: zw_T
abbrev ze_M_storeList : ByteArray := prog_13_method_43_code
def zn_M_storeList : MethodName := ⟨zr_M, "storeList", "()I"⟩
def zs_M_storeList : List Cond := .code zn_M_storeList ze_M_storeList 3 (some .int) :: zw_T
abbrev ze_M_store : ByteArray := prog_13_method_42_code
def zn_M_store : MethodName := ⟨zr_M, "store", "(I)I"⟩
def zs_M_store : List Cond := .code zn_M_store ze_M_store 3 (some .int) :: zw_T
abbrev ze_V_check : ByteArray := prog_1_method_11_code
def zn_V_check : MethodName := ⟨zr_V, "check", "(Z)I"⟩
def zs_V_check : List Cond := .code zn_V_check ze_V_check 3 (some .int) :: zw_T
abbrev ze_Draft_empty : ByteArray := prog_3_method_3_code
def zn_Draft_empty : MethodName := ⟨zr_Draft, "empty", "()V"⟩
def zs_Draft_empty : List Cond := .code zn_Draft_empty ze_Draft_empty 1 none :: zw_T
abbrev ze_Draft_isByte : ByteArray := prog_3_method_11_code
def zn_Draft_isByte : MethodName := ⟨zr_Draft, "isByte", "(I)Z"⟩
def zs_Draft_isByte : List Cond := .code zn_Draft_isByte ze_Draft_isByte 1 (some .boolean) :: zw_T
abbrev ze_Draft_append : ByteArray := prog_3_method_4_code
def zn_Draft_append : MethodName := ⟨zr_Draft, "append", "(I)Z"⟩
def zs_Draft_append : List Cond := .code zn_Draft_append ze_Draft_append 2 (some .boolean) :: zw_T
abbrev ze_Names_length : ByteArray := prog_4_method_4_code
def zn_Names_length : MethodName := ⟨zr_Names, "length", "(J)I"⟩
def zs_Names_length : List Cond := .code zn_Names_length ze_Names_length 5 (some .int) :: zw_T
abbrev ze_Names_toAscii : ByteArray := prog_4_method_5_code
def zn_Names_toAscii : MethodName := ⟨zr_Names, "toAscii", "(I)I"⟩
def zs_Names_toAscii : List Cond := .code zn_Names_toAscii ze_Names_toAscii 1 (some .int) :: zw_T
abbrev ze_Draft_appendName : ByteArray := prog_3_method_8_code
def zn_Draft_appendName : MethodName := ⟨zr_Draft, "appendName", "(IJ)V"⟩
def zs_Draft_appendName : List Cond := .code zn_Draft_appendName ze_Draft_appendName 6 none :: zw_T
abbrev ze_Draft_appendInteger : ByteArray := prog_3_method_7_code
def zn_Draft_appendInteger : MethodName := ⟨zr_Draft, "appendInteger", "(J)V"⟩
def zs_Draft_appendInteger : List Cond := .code zn_Draft_appendInteger ze_Draft_appendInteger 5 none :: zw_T
abbrev ze_Draft_wrap : ByteArray := prog_3_method_9_code
def zn_Draft_wrap : MethodName := ⟨zr_Draft, "wrap", "(II)V"⟩
def zs_Draft_wrap : List Cond := .code zn_Draft_wrap ze_Draft_wrap 5 none :: zw_T
abbrev ze_Tool_finish : ByteArray := prog_11_method_8_code
def zn_Tool_finish : MethodName := ⟨zr_Tool, "finish", "(LCertificateVault$Draft;)I"⟩
def zs_Tool_finish : List Cond := .code zn_Tool_finish ze_Tool_finish 3 (some .int) :: zw_T
abbrev ze_Tool_writeList : ByteArray := prog_11_method_7_code
def zn_Tool_writeList : MethodName := ⟨zr_Tool, "writeList", "(LCertificateVault$Draft;)I"⟩
def zs_Tool_writeList : List Cond := .code zn_Tool_writeList ze_Tool_writeList 5 (some .int) :: zw_T
abbrev ze_V_composeList : ByteArray := prog_1_method_10_code
def zn_V_composeList : MethodName := ⟨zr_V, "composeList", "()I"⟩
def zs_V_composeList : List Cond := .code zn_V_composeList ze_V_composeList 1 (some .int) :: zw_T
abbrev ze_M_add : ByteArray := prog_13_method_19_code
def zn_M_add : MethodName := ⟨zr_M, "add", "(I)V"⟩
def zs_M_add : List Cond := .code zn_M_add ze_M_add 2 none :: zw_T
abbrev ze_M_name : ByteArray := prog_13_method_21_code
def zn_M_name : MethodName := ⟨zr_M, "name", "(IJ)V"⟩
def zs_M_name : List Cond := .code zn_M_name ze_M_name 7 none :: zw_T
abbrev ze_M_integer : ByteArray := prog_13_method_20_code
def zn_M_integer : MethodName := ⟨zr_M, "integer", "(J)V"⟩
def zs_M_integer : List Cond := .code zn_M_integer ze_M_integer 5 none :: zw_T
abbrev ze_M_wrap : ByteArray := prog_13_method_23_code
def zn_M_wrap : MethodName := ⟨zr_M, "wrap", "(II)V"⟩
def zs_M_wrap : List Cond := .code zn_M_wrap ze_M_wrap 6 none :: zw_T
abbrev ze_M_signed : ByteArray := prog_13_method_24_code
def zn_M_signed : MethodName := ⟨zr_M, "signed", "()I"⟩
def zs_M_signed : List Cond := .code zn_M_signed ze_M_signed 5 (some .int) :: zw_T
abbrev ze_M_composeList : ByteArray := prog_13_method_28_code
def zn_M_composeList : MethodName := ⟨zr_M, "composeList", "()I"⟩
def zs_M_composeList : List Cond := .code zn_M_composeList ze_M_composeList 4 (some .int) :: zw_T
abbrev ze_Draft_appendTrue : ByteArray := prog_3_method_6_code
def zn_Draft_appendTrue : MethodName := ⟨zr_Draft, "appendTrue", "()V"⟩
def zs_Draft_appendTrue : List Cond := .code zn_Draft_appendTrue ze_Draft_appendTrue 1 none :: zw_T
abbrev ze_Tool_writeRealm : ByteArray := prog_11_method_12_code
def zn_Tool_writeRealm : MethodName := ⟨zr_Tool, "writeRealm", "(LCertificateVault$Draft;)V"⟩
def zs_Tool_writeRealm : List Cond := .code zn_Tool_writeRealm ze_Tool_writeRealm 4 none :: zw_T
abbrev ze_Tool_writeOwnExtension : ByteArray := prog_11_method_13_code
def zn_Tool_writeOwnExtension : MethodName := ⟨zr_Tool, "writeOwnExtension", "(LCertificateVault$Draft;)V"⟩
def zs_Tool_writeOwnExtension : List Cond := .code zn_Tool_writeOwnExtension ze_Tool_writeOwnExtension 3 none :: zw_T
abbrev ze_Tool_writeUsage : ByteArray := prog_11_method_11_code
def zn_Tool_writeUsage : MethodName := ⟨zr_Tool, "writeUsage", "(LCertificateVault$Draft;)V"⟩
def zs_Tool_writeUsage : List Cond := .code zn_Tool_writeUsage ze_Tool_writeUsage 3 none :: zw_T
abbrev ze_Tool_writeBasic : ByteArray := prog_11_method_10_code
def zn_Tool_writeBasic : MethodName := ⟨zr_Tool, "writeBasic", "(LCertificateVault$Draft;)V"⟩
def zs_Tool_writeBasic : List Cond := .code zn_Tool_writeBasic ze_Tool_writeBasic 4 none :: zw_T
abbrev ze_Tool_writeExtensions : ByteArray := prog_11_method_9_code
def zn_Tool_writeExtensions : MethodName := ⟨zr_Tool, "writeExtensions", "(LCertificateVault$Draft;)V"⟩
def zs_Tool_writeExtensions : List Cond := .code zn_Tool_writeExtensions ze_Tool_writeExtensions 3 none :: zw_T
abbrev ze_Tool_writeCertificate : ByteArray := prog_11_method_6_code
def zn_Tool_writeCertificate : MethodName := ⟨zr_Tool, "writeCertificate", "(LCertificateVault$Draft;)I"⟩
def zs_Tool_writeCertificate : List Cond := .code zn_Tool_writeCertificate ze_Tool_writeCertificate 3 (some .int) :: zw_T
abbrev ze_V_compose : ByteArray := prog_1_method_9_code
def zn_V_compose : MethodName := ⟨zr_V, "compose", "()I"⟩
def zs_V_compose : List Cond := .code zn_V_compose ze_V_compose 1 (some .int) :: zw_T
abbrev ze_M_yes : ByteArray := prog_13_method_22_code
def zn_M_yes : MethodName := ⟨zr_M, "yes", "()V"⟩
def zs_M_yes : List Cond := .code zn_M_yes ze_M_yes 1 none :: zw_T
abbrev ze_M_open : ByteArray := prog_13_method_25_code
def zn_M_open : MethodName := ⟨zr_M, "open", "(IZ)I"⟩
def zs_M_open : List Cond := .code zn_M_open ze_M_open 4 (some .int) :: zw_T
abbrev ze_M_extensions : ByteArray := prog_13_method_26_code
def zn_M_extensions : MethodName := ⟨zr_M, "extensions", "()V"⟩
def zs_M_extensions : List Cond := .code zn_M_extensions ze_M_extensions 4 none :: zw_T
abbrev ze_M_compose : ByteArray := prog_13_method_27_code
def zn_M_compose : MethodName := ⟨zr_M, "compose", "()I"⟩
def zs_M_compose : List Cond := .code zn_M_compose ze_M_compose 1 (some .int) :: zw_T
abbrev ze_Tool_dropRevoked : ByteArray := prog_11_method_5_code
def zn_Tool_dropRevoked : MethodName := ⟨zr_Tool, "dropRevoked", "()V"⟩
def zs_Tool_dropRevoked : List Cond := .code zn_Tool_dropRevoked ze_Tool_dropRevoked 1 none :: zw_T
abbrev ze_V_forgive : ByteArray := prog_1_method_8_code
def zn_V_forgive : MethodName := ⟨zr_V, "forgive", "()V"⟩
def zs_V_forgive : List Cond := .code zn_V_forgive ze_V_forgive 1 none :: zw_T
abbrev ze_M_forgive : ByteArray := prog_13_method_18_code
def zn_M_forgive : MethodName := ⟨zr_M, "forgive", "()V"⟩
def zs_M_forgive : List Cond := .code zn_M_forgive ze_M_forgive 1 none :: zw_T
abbrev ze_Tool_addRevoked : ByteArray := prog_11_method_4_code
def zn_Tool_addRevoked : MethodName := ⟨zr_Tool, "addRevoked", "(JJ)Z"⟩
def zs_Tool_addRevoked : List Cond := .code zn_Tool_addRevoked ze_Tool_addRevoked 5 (some .boolean) :: zw_T
abbrev ze_V_revoke : ByteArray := prog_1_method_7_code
def zn_V_revoke : MethodName := ⟨zr_V, "revoke", "(JJ)Z"⟩
def zs_V_revoke : List Cond := .code zn_V_revoke ze_V_revoke 5 (some .boolean) :: zw_T
abbrev ze_M_revoke : ByteArray := prog_13_method_17_code
def zn_M_revoke : MethodName := ⟨zr_M, "revoke", "(JJ)Z"⟩
def zs_M_revoke : List Cond := .code zn_M_revoke ze_M_revoke 5 (some .boolean) :: zw_T
abbrev ze_Tool_isAllowed : ByteArray := prog_11_method_3_code
def zn_Tool_isAllowed : MethodName := ⟨zr_Tool, "isAllowed", "(IJ)Z"⟩
def zs_Tool_isAllowed : List Cond := .code zn_Tool_isAllowed ze_Tool_isAllowed 3 (some .boolean) :: zw_T
abbrev ze_Tool_accept : ByteArray := prog_11_method_2_code
def zn_Tool_accept : MethodName := ⟨zr_Tool, "accept", "(IJ)Z"⟩
def zs_Tool_accept : List Cond := .code zn_Tool_accept ze_Tool_accept 4 (some .boolean) :: zw_T
abbrev ze_V_set : ByteArray := prog_1_method_6_code
def zn_V_set : MethodName := ⟨zr_V, "set", "(IJ)Z"⟩
def zs_V_set : List Cond := .code zn_V_set ze_V_set 4 (some .boolean) :: zw_T
abbrev ze_M_set : ByteArray := prog_13_method_16_code
def zn_M_set : MethodName := ⟨zr_M, "set", "(IJ)Z"⟩
def zs_M_set : List Cond := .code zn_M_set ze_M_set 5 (some .boolean) :: zw_T
abbrev ze_Draft_has : ByteArray := prog_3_method_2_code
def zn_Draft_has : MethodName := ⟨zr_Draft, "has", "(I)Z"⟩
def zs_Draft_has : List Cond := .code zn_Draft_has ze_Draft_has 2 (some .boolean) :: zw_T
abbrev ze_V_at : ByteArray := prog_1_method_5_code
def zn_V_at : MethodName := ⟨zr_V, "at", "(I)I"⟩
def zs_V_at : List Cond := .code zn_V_at ze_V_at 2 (some .int) :: zw_T
abbrev ze_M_at : ByteArray := prog_13_method_15_code
def zn_M_at : MethodName := ⟨zr_M, "at", "(I)I"⟩
def zs_M_at : List Cond := .code zn_M_at ze_M_at 2 (some .int) :: zw_T
abbrev ze_V_clear : ByteArray := prog_1_method_4_code
def zn_V_clear : MethodName := ⟨zr_V, "clear", "()V"⟩
def zs_V_clear : List Cond := .code zn_V_clear ze_V_clear 1 none :: zw_T
abbrev ze_M_clear : ByteArray := prog_13_method_14_code
def zn_M_clear : MethodName := ⟨zr_M, "clear", "()V"⟩
def zs_M_clear : List Cond := .code zn_M_clear ze_M_clear 1 none :: zw_T
abbrev ze_Draft_replace : ByteArray := prog_3_method_5_code
def zn_Draft_replace : MethodName := ⟨zr_Draft, "replace", "(II)Z"⟩
def zs_Draft_replace : List Cond := .code zn_Draft_replace ze_Draft_replace 3 (some .boolean) :: zw_T
abbrev ze_V_poke : ByteArray := prog_1_method_3_code
def zn_V_poke : MethodName := ⟨zr_V, "poke", "(II)Z"⟩
def zs_V_poke : List Cond := .code zn_V_poke ze_V_poke 3 (some .boolean) :: zw_T
abbrev ze_M_poke : ByteArray := prog_13_method_13_code
def zn_M_poke : MethodName := ⟨zr_M, "poke", "(II)Z"⟩
def zs_M_poke : List Cond := .code zn_M_poke ze_M_poke 3 (some .boolean) :: zw_T
abbrev ze_V_put : ByteArray := prog_1_method_2_code
def zn_V_put : MethodName := ⟨zr_V, "put", "(I)Z"⟩
def zs_V_put : List Cond := .code zn_V_put ze_V_put 2 (some .boolean) :: zw_T
abbrev ze_M_put : ByteArray := prog_13_method_12_code
def zn_M_put : MethodName := ⟨zr_M, "put", "(I)Z"⟩
def zs_M_put : List Cond := .code zn_M_put ze_M_put 2 (some .boolean) :: zw_T
abbrev ze_L_law : ByteArray := code
end
section
/-! The pure state: what the run has made lies behind h0, one behind the other; a reference is a number from 0. -/
abbrev zh_S : Type := (Nat → Nat → Int32) × (Nat → Nat → Int64) × (Nat → Nat → Option Nat) × (Nat → Nat × Nat) × Nat × Nat
def zh_I (s : zh_S) : Nat → Nat → Int32 := s.1
def zh_J (s : zh_S) : Nat → Nat → Int64 := s.2.1
def zh_R (s : zh_S) : Nat → Nat → Option Nat := s.2.2.1
def zh_K (s : zh_S) : Nat → Nat × Nat := s.2.2.2.1
def zh_N (s : zh_S) : Nat := s.2.2.2.2.1
def zh_M (s : zh_S) : Nat := s.2.2.2.2.2
def zh_uI (s : zh_S) (a k : Nat) (v : Int32) : zh_S := (va_up s.1 a (va_up (s.1 a) k v), s.2)
def zh_uJ (s : zh_S) (a k : Nat) (v : Int64) : zh_S := (s.1, va_up s.2.1 a (va_up (s.2.1 a) k v), s.2.2)
def zh_uR (s : zh_S) (a k : Nat) (v : Option Nat) : zh_S := (s.1, s.2.1, va_up s.2.2.1 a (va_up (s.2.2.1 a) k v), s.2.2.2)
def zh_new (s : zh_S) (kd : Nat × Nat) (sl : Nat) : zh_S :=
  (va_up s.1 (zh_N s) (fun _ => 0), va_up s.2.1 (zh_N s) (fun _ => 0), va_up s.2.2.1 (zh_N s) (fun _ => none), va_up s.2.2.2.1 (zh_N s) kd, zh_N s + 1, zh_M s + sl)
def zh_cpy (s : zh_S) (a : Nat) (sp : Int32) (b : Nat) (dp ln : Int32) : zh_S :=
  (va_up s.1 b (va_cpy (s.1 a) (s.1 b) sp.toNatClampNeg dp.toNatClampNeg ln.toNatClampNeg), s.2)
abbrev zh_oo (s : zh_S) (a ci : Nat) : Prop := zh_K s a = (2, ci) ∧ a < zh_N s
abbrev zh_ol (s : zh_S) (a t : Nat) : Prop := (zh_K s a).1 = t ∧ a < zh_N s
abbrev zh_oa (s : zh_S) (a t : Nat) (i : Int32) : Prop := (zh_K s a).1 = t ∧ a < zh_N s ∧ ¬ i < 0 ∧ i.toNatClampNeg < (zh_K s a).2
abbrev zh_oc (s : zh_S) (a : Nat) (sp : Int32) (b : Nat) (dp ln : Int32) : Prop :=
  (zh_K s a).1 = 0 ∧ a < zh_N s ∧ (zh_K s b).1 = 0 ∧ b < zh_N s ∧ ¬ sp < 0 ∧ ¬ dp < 0 ∧ ¬ ln < 0 ∧ sp.toNatClampNeg + ln.toNatClampNeg ≤ (zh_K s a).2 ∧ dp.toNatClampNeg + ln.toNatClampNeg ≤ (zh_K s b).2
def zk_l {α β : Type} (e : α) (f : α → Option β) : Option β := f e
def zk_p {α β : Type} (o : Option α) (f : α → Option β) : Option β := match o with
  | none => none
  | some a => f a
def zk_b {α β γ : Type} (o : Option (α × γ)) (f : α → γ → Option β) : Option β := match o with
  | none => none
  | some q => f q.1 q.2
def zk_o {β : Type} (o : Option Nat) (a : Option β) (f : Nat → Option β) : Option β := match o with
  | none => a
  | some x => f x
def zu_i (x y : Int32) : Int32 := (x.toUInt32 >>> (y.toUInt32 &&& Int32.toUInt32 31)).toInt32
def zu_l (x : Int64) (y : Int32) : Int64 := (x.toUInt64 >>> (y.toInt64.toUInt64 &&& Int64.toUInt64 63)).toInt64
def zt_MODULI (i : Nat) : Int64 := [1200000049400000287, 1430000491000037023, 1536351190290809371, 1728395075795061493, 1697785988597898509, 1597490175708938519].getD i 0
def zt_EXPONENTS (i : Nat) : Int64 := [3, 17, 257, 65537, 5, 11].getD i 0
def zt_PRIVATE_EXPONENTS (i : Nat) : Int64 := [800000031466666827, 84117675800002153, 579867958021467505, 1604812069470515813, 339557197186246361, 1161811034953791779].getD i 0
theorem zx_ck {c : Prop} [Decidable c] {β : Type} {A : Option β} {b : β} (h : (if c then A else none) = some b) : c ∧ A = some b := by
  by_cases hc : c
  · rw [if_pos hc] at h; exact ⟨hc, h⟩
  · rw [if_neg hc] at h; cases h
theorem zx_l {α β : Type} {e : α} {f : α → Option β} {b : β} (h : zk_l e f = some b) : ∃ x, x = e ∧ f x = some b := ⟨e, rfl, h⟩
theorem zx_p {α β : Type} {o : Option α} {f : α → Option β} {b : β} (h : zk_p o f = some b) : ∃ x, o = some x ∧ f x = some b := by
  cases o with
  | none => cases h
  | some x => exact ⟨x, rfl, h⟩
theorem zx_b {α β γ : Type} {o : Option (α × γ)} {f : α → γ → Option β} {b : β} (h : zk_b o f = some b) : ∃ x y, o = some (x, y) ∧ f x y = some b := by
  cases o with
  | none => cases h
  | some q => exact ⟨q.1, q.2, rfl, h⟩
theorem zx_o {β : Type} {o : Option Nat} {a : Option β} {f : Nat → Option β} {b : β} (h : zk_o o a f = some b) : (o = none ∧ a = some b) ∨ ∃ x, o = some x ∧ f x = some b := by
  cases o with
  | none => exact Or.inl ⟨rfl, h⟩
  | some x => exact Or.inr ⟨x, rfl, h⟩
theorem zx_oI {x y : zh_S} {a ci b k : Nat} {v : Int32} (e : y = zh_uI x b k v) (h : zh_oo x a ci) : zh_oo y a ci := by subst e; exact h
theorem zx_oJ {x y : zh_S} {a ci b k : Nat} {v : Int64} (e : y = zh_uJ x b k v) (h : zh_oo x a ci) : zh_oo y a ci := by subst e; exact h
theorem zx_oR {x y : zh_S} {a ci b k : Nat} {v : Option Nat} (e : y = zh_uR x b k v) (h : zh_oo x a ci) : zh_oo y a ci := by subst e; exact h
theorem zx_oC {x y : zh_S} {a ci b c : Nat} {sp dp ln : Int32} (e : y = zh_cpy x b sp c dp ln) (h : zh_oo x a ci) : zh_oo y a ci := by subst e; exact h
theorem zx_on {x y : zh_S} {b ci sl : Nat} (e : y = zh_new x (2, ci) sl) (eb : b = zh_N x) : zh_oo y b ci := by
  subst e; subst eb
  exact ⟨by show va_up x.2.2.2.1 (zh_N x) _ (zh_N x) = _; rw [va_up_self], Nat.lt_succ_self _⟩
theorem zx_muI {x y : zh_S} {b k : Nat} {v : Int32} (e : y = zh_uI x b k v) : zh_N x ≤ zh_N y ∧ zh_M x ≤ zh_M y := by subst e; exact ⟨Nat.le_refl _, Nat.le_refl _⟩
theorem zx_muJ {x y : zh_S} {b k : Nat} {v : Int64} (e : y = zh_uJ x b k v) : zh_N x ≤ zh_N y ∧ zh_M x ≤ zh_M y := by subst e; exact ⟨Nat.le_refl _, Nat.le_refl _⟩
theorem zx_muR {x y : zh_S} {b k : Nat} {v : Option Nat} (e : y = zh_uR x b k v) : zh_N x ≤ zh_N y ∧ zh_M x ≤ zh_M y := by subst e; exact ⟨Nat.le_refl _, Nat.le_refl _⟩
theorem zx_mcpy {x y : zh_S} {b c : Nat} {sp dp ln : Int32} (e : y = zh_cpy x b sp c dp ln) : zh_N x ≤ zh_N y ∧ zh_M x ≤ zh_M y := by subst e; exact ⟨Nat.le_refl _, Nat.le_refl _⟩
theorem zx_mnew {x y : zh_S} {kd : Nat × Nat} {sl : Nat} (e : y = zh_new x kd sl) : zh_N x ≤ zh_N y ∧ zh_M x ≤ zh_M y := by
  subst e; exact ⟨Nat.le_succ _, Nat.le_add_right _ _⟩
theorem zx_nz {v : Int32} (h : v = 0 ∨ v = 1) : narrow .boolean (.int v) = .int v := by rcases h with rfl | rfl <;> rfl
theorem zx_fz {v : Int32} (h : v = 0 ∨ v = 1) : fits .boolean (.int v) = true := by rcases h with rfl | rfl <;> rfl
theorem zx_tab {x : Int32} (hi : Nat) (h : ∀ j : Nat, j ≤ hi → ¬ x = Int32.ofNat j) (hh : hi < 2 ^ 31 := by decide) : x.toInt < 0 ∨ (hi : Int) < x.toInt := by
  by_cases h0 : x < 0
  · exact Or.inl (by simpa using Int32.lt_iff_toInt_lt.mp h0)
  · obtain ⟨j, hj, rfl⟩ := nI_of h0
    right
    rw [nI_toInt hj]
    by_cases hj2 : j ≤ hi
    · exact absurd rfl (h j hj2)
    · omega
end
section
/-! The heap and the pure state; the judgement zg_G; rows that touch the heap. (classes, zh_f, zh_n, R_..: printed names.) -/
def zh_fv (h0 : Nat) (s : zh_S) (ci a k : Nat) : Value := match zh_f ci k with
  | 0 => .int (zh_I s a k)
  | 1 => .long (zh_J s a k)
  | _ => va_rf ((zh_R s a k).map (h0 + ·))
def zh_ce (h0 : Nat) (dA : Nat → ClassId) (s : zh_S) (a : Nat) : va_E := match zh_K s a with
  | (0, n) => .inl (dA 0, n, .inl (zh_I s a))
  | (1, n) => .inl (dA 1, n, .inr (.inl (zh_J s a)))
  | (2, ci) => .inr (ci, (List.range (zh_n ci)).map (zh_fv h0 s ci a))
  | (t + 3, n) => .inl (dA (t + 3), n, .inr (.inr (.inr (.inr (fun k => (zh_R s a k).map (h0 + ·))))))
abbrev zh_tys (dA : Nat → ClassId) : List (ClassId × FieldType) := [(dA 0, .int), (dA 1, .long), (dA 3, .object zr_Certificate), (dA 4, .object zr_RevokedList)]
def zh_mI (h0 : Nat) (D : va_G) (dA : Nat → ClassId) (s : zh_S) (H : Heap) : Prop := H.size = h0 + zh_N s ∧ ∀ a, a < zh_N s → va_at D classes (h0 + a, zh_ce h0 dA s a) H
theorem zh_set {h0 : Nat} {D : va_G} {dA : Nat → ClassId} {s s1 : zh_S} {H H1 : Heap} {a : Nat} (h : zh_mI h0 D dA s H) (hz : H1.size = H.size) (oq : ∀ q, q ≠ h0 + a → H1[q]? = H[q]?) (hN : zh_N s1 = zh_N s)
    (hco : ∀ b, b ≠ a → zh_ce h0 dA s1 b = zh_ce h0 dA s b) (hat : va_at D classes (h0 + a, zh_ce h0 dA s1 a) H1) : zh_mI h0 D dA s1 H1 := by
  refine ⟨by rw [hz, hN]; exact h.1, fun b hb => ?_⟩
  by_cases hba : b = a
  · subst hba; exact hat
  · rw [hco b hba]
    exact (h.2 b (by rw [← hN]; exact hb)).kept (oq _ (by show h0 + b ≠ h0 + a; omega))
theorem zh_push {h0 : Nat} {D : va_G} {dA : Nat → ClassId} {s s1 : zh_S} {H H1 : Heap} (h : zh_mI h0 D dA s H) (hz : H1.size = H.size + 1) (oq : ∀ q, q < H.size → H1[q]? = H[q]?) (hN : zh_N s1 = zh_N s + 1)
    (hco : ∀ b, b ≠ zh_N s → zh_ce h0 dA s1 b = zh_ce h0 dA s b) (hat : va_at D classes (H.size, zh_ce h0 dA s1 (zh_N s)) H1) : zh_mI h0 D dA s1 H1 := by
  refine ⟨by rw [hz, hN, h.1]; omega, fun b hb => ?_⟩
  by_cases hba : b = zh_N s
  · subst hba; rw [← h.1]; exact hat
  · rw [hco b hba]
    have hb2 : b < zh_N s := by omega
    exact (h.2 b hb2).kept (oq _ (by show h0 + b < H.size; rw [h.1]; omega))
theorem zh_one {D : va_G} {cl : List vw_C} {q : Nat × va_E} {H : Heap} (h : va_at D cl q H) : va_P D cl [q] H := by
  intro k x hx
  cases k with
  | zero => cases hx; exact h
  | succ k => cases hx
theorem zh_obj {h0 : Nat} {dA : Nat → ClassId} {s : zh_S} {a ci : Nat} (h : zh_oo s a ci) : zh_ce h0 dA s a = .inr (ci, (List.range (zh_n ci)).map (zh_fv h0 s ci a)) := by
  unfold zh_ce; rw [h.1]
theorem zh_ia {h0 : Nat} {dA : Nat → ClassId} {s : zh_S} {a : Nat} (h : (zh_K s a).1 = 0) : zh_ce h0 dA s a = .inl (dA 0, (zh_K s a).2, .inl (zh_I s a)) := by
  unfold zh_ce
  obtain ⟨t, n, e⟩ : ∃ t n, zh_K s a = (t, n) := ⟨_, _, rfl⟩
  rw [e] at h ⊢
  cases h; rfl
theorem zh_la {h0 : Nat} {dA : Nat → ClassId} {s : zh_S} {a : Nat} (h : (zh_K s a).1 = 1) : zh_ce h0 dA s a = .inl (dA 1, (zh_K s a).2, .inr (.inl (zh_J s a))) := by
  unfold zh_ce
  obtain ⟨t, n, e⟩ : ∃ t n, zh_K s a = (t, n) := ⟨_, _, rfl⟩
  rw [e] at h ⊢
  cases h; rfl
theorem zh_ra {h0 : Nat} {dA : Nat → ClassId} {s : zh_S} {a t : Nat} (h : (zh_K s a).1 = t + 3) : zh_ce h0 dA s a = .inl (dA (t + 3), (zh_K s a).2, .inr (.inr (.inr (.inr (fun k => (zh_R s a k).map (h0 + ·)))))) := by
  unfold zh_ce
  obtain ⟨t', n, e⟩ : ∃ t n, zh_K s a = (t, n) := ⟨_, _, rfl⟩
  rw [e] at h ⊢
  cases h; rfl
theorem zh_lset {N k : Nat} {f : Nat → Value} {v : Value} : ((List.range N).map f).set k v = (List.range N).map (va_up f k v) := by
  apply List.ext_getElem?
  intro j
  by_cases hj : j < N
  · by_cases hk : j = k
    · subst hk
      rw [List.getElem?_set_self (by simpa using hj), List.getElem?_map, List.getElem?_range hj]
      simp [va_up]
    · rw [List.getElem?_set_ne (Ne.symm hk), List.getElem?_map, List.getElem?_map, List.getElem?_range hj]
      simp [va_up, hk]
  · rw [List.getElem?_eq_none (by simpa using Nat.not_lt.mp hj), List.getElem?_eq_none (by simpa using Nat.not_lt.mp hj)]
theorem zh_in {i : Int32} {n : Nat} (h1 : ¬ i < 0) (h2 : i.toNatClampNeg < n) : vp_in i n := fun h => by
  rcases h with h | h
  · exact h1 h
  · omega
-- the pure state's own rows
theorem zh_N_uI (s : zh_S) (a k : Nat) (v : Int32) : zh_N (zh_uI s a k v) = zh_N s := rfl
theorem zh_M_uI (s : zh_S) (a k : Nat) (v : Int32) : zh_M (zh_uI s a k v) = zh_M s := rfl
theorem zh_N_uJ (s : zh_S) (a k : Nat) (v : Int64) : zh_N (zh_uJ s a k v) = zh_N s := rfl
theorem zh_M_uJ (s : zh_S) (a k : Nat) (v : Int64) : zh_M (zh_uJ s a k v) = zh_M s := rfl
theorem zh_N_uR (s : zh_S) (a k : Nat) (v : Option Nat) : zh_N (zh_uR s a k v) = zh_N s := rfl
theorem zh_M_uR (s : zh_S) (a k : Nat) (v : Option Nat) : zh_M (zh_uR s a k v) = zh_M s := rfl
theorem zh_ne_uI {h0 : Nat} {dA : Nat → ClassId} {s : zh_S} {a k b : Nat} {v : Int32} (h : b ≠ a) : zh_ce h0 dA (zh_uI s a k v) b = zh_ce h0 dA s b := by
  have e : zh_I (zh_uI s a k v) b = zh_I s b := by show va_up s.1 a _ b = s.1 b; rw [va_up_ne _ _ h]
  have f : ∀ ci, zh_fv h0 (zh_uI s a k v) ci b = zh_fv h0 s ci b := fun ci => by
    funext j; unfold zh_fv; rw [e]; rfl
  unfold zh_ce
  rw [e, show zh_K (zh_uI s a k v) = zh_K s from rfl, show zh_J (zh_uI s a k v) = zh_J s from rfl, show zh_R (zh_uI s a k v) = zh_R s from rfl]
  simp only [f]
theorem zh_ne_uJ {h0 : Nat} {dA : Nat → ClassId} {s : zh_S} {a k b : Nat} {v : Int64} (h : b ≠ a) : zh_ce h0 dA (zh_uJ s a k v) b = zh_ce h0 dA s b := by
  have e : zh_J (zh_uJ s a k v) b = zh_J s b := by show va_up s.2.1 a _ b = s.2.1 b; rw [va_up_ne _ _ h]
  have f : ∀ ci, zh_fv h0 (zh_uJ s a k v) ci b = zh_fv h0 s ci b := fun ci => by
    funext j; unfold zh_fv; rw [e]; rfl
  unfold zh_ce
  rw [e, show zh_K (zh_uJ s a k v) = zh_K s from rfl, show zh_I (zh_uJ s a k v) = zh_I s from rfl, show zh_R (zh_uJ s a k v) = zh_R s from rfl]
  simp only [f]
theorem zh_ne_uR {h0 : Nat} {dA : Nat → ClassId} {s : zh_S} {a k b : Nat} {v : Option Nat} (h : b ≠ a) : zh_ce h0 dA (zh_uR s a k v) b = zh_ce h0 dA s b := by
  have e : zh_R (zh_uR s a k v) b = zh_R s b := by show va_up s.2.2.1 a _ b = s.2.2.1 b; rw [va_up_ne _ _ h]
  have f : ∀ ci, zh_fv h0 (zh_uR s a k v) ci b = zh_fv h0 s ci b := fun ci => by
    funext j; unfold zh_fv; rw [e]; rfl
  unfold zh_ce
  rw [e, show zh_K (zh_uR s a k v) = zh_K s from rfl, show zh_I (zh_uR s a k v) = zh_I s from rfl, show zh_J (zh_uR s a k v) = zh_J s from rfl]
  simp only [f]
theorem zh_fv_uI {h0 : Nat} {s : zh_S} {ci a k : Nat} {v : Int32} (hf : zh_f ci k = 0) : zh_fv h0 (zh_uI s a k v) ci a = va_up (zh_fv h0 s ci a) k (.int v) := by
  funext j
  have e : zh_I (zh_uI s a k v) a = va_up (zh_I s a) k v := by show va_up s.1 a _ a = _; rw [va_up_self]; rfl
  by_cases hj : j = k
  · subst hj; rw [va_up_self]; unfold zh_fv; rw [hf, e, va_up_self]; rfl
  · rw [va_up_ne _ _ hj]; unfold zh_fv; rw [e, va_up_ne _ _ hj]; rfl
theorem zh_fv_uJ {h0 : Nat} {s : zh_S} {ci a k : Nat} {v : Int64} (hf : zh_f ci k = 1) : zh_fv h0 (zh_uJ s a k v) ci a = va_up (zh_fv h0 s ci a) k (.long v) := by
  funext j
  have e : zh_J (zh_uJ s a k v) a = va_up (zh_J s a) k v := by show va_up s.2.1 a _ a = _; rw [va_up_self]; rfl
  by_cases hj : j = k
  · subst hj; rw [va_up_self]; unfold zh_fv; rw [hf, e, va_up_self]; rfl
  · rw [va_up_ne _ _ hj]; unfold zh_fv; rw [e, va_up_ne _ _ hj]; rfl
theorem zh_fv_uR {h0 : Nat} {s : zh_S} {ci a k : Nat} {v : Option Nat} (hf : zh_f ci k = 2) : zh_fv h0 (zh_uR s a k v) ci a = va_up (zh_fv h0 s ci a) k (va_rf (v.map (h0 + ·))) := by
  funext j
  have e : zh_R (zh_uR s a k v) a = va_up (zh_R s a) k v := by show va_up s.2.2.1 a _ a = _; rw [va_up_self]; rfl
  by_cases hj : j = k
  · subst hj; rw [va_up_self]; unfold zh_fv; rw [hf, e, va_up_self]; rfl
  · rw [va_up_ne _ _ hj]; unfold zh_fv; rw [e, va_up_ne _ _ hj]; rfl
/-- what a walk says: from here the machine comes to Q; the state's counters never pass those at the end -/
def zg_G (p : Program) (l : Launch) (e : Env) (R : Room) (s : State) (m : MethodId) (args : Array Value) (below : List Frame) (meth : Method) (c : Code) (Q : State → Prop) (h0 : Nat) (D : va_G) (dA : Nat → ClassId) (nL c0 s0 : Nat) (z : zh_S) (x : zh_S) (pc : Nat) (lv : List (Nat × Value)) (st : List Value) : Prop :=
  (zh_N x ≤ zh_N z ∧ zh_M x ≤ zh_M z) ∧ ∀ (H : Heap) (locs : List Loc) (ls : Array Slot) (k j : Nat), zh_N x = c0 + k → zh_M x = s0 + j → zh_mI h0 D dA x H → va_S (fun q => h0 ≤ q) s.heap H locs → lv_has ls nL lv →
    W p l e R s m args below meth c H locs k j Q (F0 m pc ls st)
section ZG
variable {p : Program} {l : Launch} {e : Env} {R : Room} {s : State} {m : MethodId} {args : Array Value} {below : List Frame} {meth : Method} {c : Code} {Q : State → Prop} {h0 : Nat} {D : va_G} {dA : Nat → ClassId} {nL c0 s0 : Nat} {z x : zh_S} {pc pc' pc1 pc2 : Nat} {lv lv' : List (Nat × Value)} {st st' : List Value} {cc : ByteArray}
theorem zg_1 (h : ∀ (H : Heap) (locs : List Loc) (ls : Array Slot) (k j : Nat), lv_has ls nL lv → W p l e R s m args below meth c H locs k j Q (F0 m pc' ls st') → W p l e R s m args below meth c H locs k j Q (F0 m pc ls st))
    (kk : zg_G p l e R s m args below meth c Q h0 D dA nL c0 s0 z x pc' lv st') : zg_G p l e R s m args below meth c Q h0 D dA nL c0 s0 z x pc lv st :=
  ⟨kk.1, fun H locs ls k j h1 h2 hI hS hl => h H locs ls k j hl (kk.2 H locs ls k j h1 h2 hI hS hl)⟩
theorem zg_s (h : ∀ (H : Heap) (locs : List Loc) (ls : Array Slot) (k j : Nat), lv_has ls nL lv → (∀ ls' : Array Slot, lv_has ls' nL lv' → W p l e R s m args below meth c H locs k j Q (F0 m pc' ls' st')) → W p l e R s m args below meth c H locs k j Q (F0 m pc ls st))
    (kk : zg_G p l e R s m args below meth c Q h0 D dA nL c0 s0 z x pc' lv' st') : zg_G p l e R s m args below meth c Q h0 D dA nL c0 s0 z x pc lv st :=
  ⟨kk.1, fun H locs ls k j h1 h2 hI hS hl => h H locs ls k j hl (fun ls' hl' => kk.2 H locs ls' k j h1 h2 hI hS hl')⟩
theorem zg_2 {c1 c2 : Prop} (hc : c1 ∨ c2) (h : ∀ (H : Heap) (locs : List Loc) (ls : Array Slot) (k j : Nat), (c1 → W p l e R s m args below meth c H locs k j Q (F0 m pc1 ls st')) → (c2 → W p l e R s m args below meth c H locs k j Q (F0 m pc2 ls st')) → W p l e R s m args below meth c H locs k j Q (F0 m pc ls st))
    (k1 : c1 → zg_G p l e R s m args below meth c Q h0 D dA nL c0 s0 z x pc1 lv st') (k2 : c2 → zg_G p l e R s m args below meth c Q h0 D dA nL c0 s0 z x pc2 lv st') : zg_G p l e R s m args below meth c Q h0 D dA nL c0 s0 z x pc lv st :=
  ⟨by rcases hc with h | h; exact (k1 h).1; exact (k2 h).1, fun H locs ls k j h1 h2 hI hS hl => h H locs ls k j (fun q => (k1 q).2 H locs ls k j h1 h2 hI hS hl) (fun q => (k2 q).2 H locs ls k j h1 h2 hI hS hl)⟩
theorem zg_3 (h : ∀ (H : Heap) (locs : List Loc) (ls : Array Slot) (k j : Nat), va_S (fun q => h0 ≤ q) s.heap H locs → lv_has ls nL lv → W p l e R s m args below meth c H locs k j Q (F0 m pc' ls st') → W p l e R s m args below meth c H locs k j Q (F0 m pc ls st))
    (kk : zg_G p l e R s m args below meth c Q h0 D dA nL c0 s0 z x pc' lv st') : zg_G p l e R s m args below meth c Q h0 D dA nL c0 s0 z x pc lv st :=
  ⟨kk.1, fun H locs ls k j h1 h2 hI hS hl => h H locs ls k j hS hl (kk.2 H locs ls k j h1 h2 hI hS hl)⟩
theorem zg_ti {v y : Int32} (h : y = v) (kk : zg_G p l e R s m args below meth c Q h0 D dA nL c0 s0 z x pc lv (.int y :: st)) : zg_G p l e R s m args below meth c Q h0 D dA nL c0 s0 z x pc lv (.int v :: st) := by subst h; exact kk
theorem zg_tl {v y : Int64} (h : y = v) (kk : zg_G p l e R s m args below meth c Q h0 D dA nL c0 s0 z x pc lv (.long y :: st)) : zg_G p l e R s m args below meth c Q h0 D dA nL c0 s0 z x pc lv (.long v :: st) := by subst h; exact kk
/-- fewer locals -/
theorem zg_v (ks : List Nat) (hl : lv_pick lv ks = lv') (kk : zg_G p l e R s m args below meth c Q h0 D dA nL c0 s0 z x pc lv' st) : zg_G p l e R s m args below meth c Q h0 D dA nL c0 s0 z x pc lv st :=
  ⟨kk.1, fun H locs ls k j h1 h2 hI hS h => kk.2 H locs ls k j h1 h2 hI hS (lv_sub h ks hl)⟩
theorem zg_get (hexec : p.tables.exec = Jvm.exec) (hb : c.code = cc) {own ref C : String} {T : u_T} {N ci index : Nat} {Ts : List Cond} (hts : ∀ w ∈ Ts, w.before args s = true) (hin : ∀ w ∈ u_ws C T N, w ∈ Ts) (hown : s.vm.findClass own = some m.cls) (hK : va_K D classes (zh_tys dA) s) {a : Nat} (ho : zh_oo x a ci)
    (hc : classes[ci]? = some (C, T, N)) (hn : zh_n ci = N) (k : Nat) (hk : k < N) (hlink : (Cond.fieldLink own index ref (T k).2.1 (T k).2.2.1).before args s = true) (hsame : ∀ y, s.fieldFound? (T k).1 (T k).2.1 (T k).2.2.1 = some y → s.fieldFound? ref (T k).2.1 (T k).2.2.1 = some y)
    {v : Value} (hv : zh_fv h0 x ci a k = v) (hdg : decode cc pc = .ok (.getfield index, 3)) (hpc : pc + 3 = pc') (kk : zg_G p l e R s m args below meth c Q h0 D dA nL c0 s0 z x pc' lv (v :: st)) : zg_G p l e R s m args below meth c Q h0 D dA nL c0 s0 z x pc lv (.ref (h0 + a) :: st) := by
  subst hpc
  refine ⟨kk.1, fun H locs ls k' j h1 h2 hI hS hl => ?_⟩
  have hat := hI.2 a ho.2
  rw [zh_obj ho] at hat
  exact va_get hexec hb hts hin hown hK (zh_one hat) 0 rfl hc k hk hlink hsame (by rw [hn, List.getElem?_map, List.getElem?_range hk]; exact congrArg some hv) hdg (kk.2 H locs ls k' j h1 h2 hI hS hl)
/-- a field is written; y is the state behind it -/
theorem zg_put0 (hexec : p.tables.exec = Jvm.exec) (hb : c.code = cc) {own ref C : String} {T : u_T} {N ci index : Nat} {Ts : List Cond} (hts : ∀ w ∈ Ts, w.before args s = true) (hin : ∀ w ∈ u_ws C T N, w ∈ Ts) (ty0 : Nat → FieldType) (hty : ∀ k, k < N → parseFieldDescriptor (T k).2.2.1 = some (ty0 k)) (hnm : ∀ a, a < N → ∀ b, b < N → a ≠ b → (T a).2.1 ≠ (T b).2.1)
    (hown : s.vm.findClass own = some m.cls) (hK : va_K D classes (zh_tys dA) s) {a : Nat} (ho : zh_oo x a ci) (hc : classes[ci]? = some (C, T, N)) (hn : zh_n ci = N) (k : Nat) (hk : k < N) (hlink : (Cond.fieldLink own index ref (T k).2.1 (T k).2.2.1).before args s = true) (hsame : ∀ y, s.fieldFound? (T k).1 (T k).2.1 (T k).2.2.1 = some y → s.fieldFound? ref (T k).2.1 (T k).2.2.1 = some y)
    (hfin : (T k).2.2.2 = false ∨ ((T k).2.2.2 = true ∧ meth.name = "<init>" ∧ (T k).1 = own)) {ty : FieldType} {v : Value} (hd : parseFieldDescriptor (T k).2.2.1 = some ty) (hnr : narrow ty v = v) (hfit : fits ty v = true)
    {y : zh_S} (hyN : zh_N y = zh_N x) (hyM : zh_M y = zh_M x) (hyK : zh_K y = zh_K x) (hye : ∀ b, b ≠ a → zh_ce h0 dA y b = zh_ce h0 dA x b) (hyf : zh_fv h0 y ci a = va_up (zh_fv h0 x ci a) k v)
    (hdg : decode cc pc = .ok (.putfield index, 3)) (hpc : pc + 3 = pc') (kk : zg_G p l e R s m args below meth c Q h0 D dA nL c0 s0 z y pc' lv st) : zg_G p l e R s m args below meth c Q h0 D dA nL c0 s0 z x pc lv (v :: .ref (h0 + a) :: st) := by
  subst hpc
  refine ⟨by rw [← hyN, ← hyM]; exact kk.1, fun H locs ls k' j h1 h2 hI hS hl => ?_⟩
  have hat := hI.2 a ho.2
  rw [zh_obj ho] at hat
  have hap := va_apart (own := own) hts hin ty0 hty hnm hK hc
  obtain ⟨r, g1, cell, q1, q2, q3, q4⟩ := hat
  have hr : r = (C, T, N) := Option.some.inj (g1.symm.trans hc)
  subst hr
  have hcls := hK.1 ci _ hc
  obtain ⟨hSl, hfc, kC, hkC, hkind⟩ := hcls
  obtain ⟨cf, kf, fi, f, hi, hsl⟩ := hSl k hk
  have hst := (u_facts hfc hkC (u_lays hts hin hk) hi).1
  have hlay := hts _ (hin _ (u_in_lay hk))
  unfold u_lay at hlay
  have fin : ∀ H' : Heap, H'[h0 + a]? = some (cell.setSlot f.slot v) → H'.size = H.size → (∀ q, q ≠ h0 + a → H'[q]? = H[q]?) → W p l e R s m args below meth c H' (locs ++ [⟨h0 + a, f.slot⟩]) k' j Q (F0 m (pc + 3) ls st) := by
    intro H' e1 e2 e3
    rw [hsl] at e1 ⊢
    refine kk.2 H' _ ls k' j (by rw [hyN]; exact h1) (by rw [hyM]; exact h2) (zh_set hI e2 e3 hyN hye ?_) (hS.put e2 e3 (Nat.le_add_right h0 a)) hl
    rw [zh_obj (show zh_oo y a ci from ⟨by rw [hyK]; exact ho.1, by rw [hyN]; exact ho.2⟩), hyf, ← zh_lset]
    exact ⟨_, hc, t_OB.to (V := updV (vp_V ((List.range (zh_n ci)).map (zh_fv h0 x ci a))) k v) ⟨_, e1, q2, q3, t_set q4 hap hk v⟩ (fun j _ => vp_updV_set (by rw [hn]; simpa using hk) v j)⟩
  rcases hfin with hfin | ⟨hfin, hin2, hdecl⟩
  · rw [if_neg (by rw [hfin]; decide)] at hlay
    have h6 := u_store hfc hkC hkind hlay hi hd hnr hfit
    exact W.putK hexec hb (f := f) ⟨hown, hlink, ⟨_, _, _, hsame _ hi⟩, hst⟩ (by rw [q2]; exact h6) q1 q3 (by rw [hsl]; exact k2_hasslot (q4 k hk)) rfl rfl hdg fin
  · rw [if_pos hfin] at hlay
    have hcf : m.cls = cf := by
      obtain ⟨_, _, c', _, _, _, -, -, hf', -, -, -, hown2, -⟩ := Cond.laysFinal_spec hlay
      have e1 : c' = cf := by have := hi.symm.trans hf'; simp at this; exact this.1.symm
      rw [hdecl] at hown2
      rw [← e1]; exact Option.some.inj (hown.symm.trans hown2)
    have h6 := u_fits hfc hkC hkind (Or.inr hlay) hi hd hnr hfit
    exact W.putFinK hexec hb hown hlink (hsame _ hi) hst hcf hin2 (by rw [q2]; exact h6) q1 q3 (by rw [hsl]; exact k2_hasslot (q4 k hk)) rfl rfl hdg fin
theorem zg_putI (hexec : p.tables.exec = Jvm.exec) (hb : c.code = cc) {own ref C : String} {T : u_T} {N ci index : Nat} {Ts : List Cond} (hts : ∀ w ∈ Ts, w.before args s = true) (hin : ∀ w ∈ u_ws C T N, w ∈ Ts) (ty0 : Nat → FieldType) (hty : ∀ k, k < N → parseFieldDescriptor (T k).2.2.1 = some (ty0 k)) (hnm : ∀ a, a < N → ∀ b, b < N → a ≠ b → (T a).2.1 ≠ (T b).2.1)
    (hown : s.vm.findClass own = some m.cls) (hK : va_K D classes (zh_tys dA) s) {a : Nat} (ho : zh_oo x a ci) (hc : classes[ci]? = some (C, T, N)) (hn : zh_n ci = N) (k : Nat) (hk : k < N) (hlink : (Cond.fieldLink own index ref (T k).2.1 (T k).2.2.1).before args s = true) (hsame : ∀ y, s.fieldFound? (T k).1 (T k).2.1 (T k).2.2.1 = some y → s.fieldFound? ref (T k).2.1 (T k).2.2.1 = some y)
    (hfin : (T k).2.2.2 = false ∨ ((T k).2.2.2 = true ∧ meth.name = "<init>" ∧ (T k).1 = own)) {ty : FieldType} {v : Int32} (hd : parseFieldDescriptor (T k).2.2.1 = some ty) (hnr : narrow ty (.int v) = .int v) (hfit : fits ty (.int v) = true) (hf0 : zh_f ci k = 0) {y : zh_S} (hy : y = zh_uI x a k v)
    (hdg : decode cc pc = .ok (.putfield index, 3)) (hpc : pc + 3 = pc') (kk : zg_G p l e R s m args below meth c Q h0 D dA nL c0 s0 z y pc' lv st) : zg_G p l e R s m args below meth c Q h0 D dA nL c0 s0 z x pc lv (.int v :: .ref (h0 + a) :: st) := by
  subst hy
  exact zg_put0 (y := zh_uI x a k v) hexec hb hts hin ty0 hty hnm hown hK ho hc hn k hk hlink hsame hfin hd hnr hfit rfl rfl rfl (fun b hb => zh_ne_uI hb) (zh_fv_uI hf0) hdg hpc kk
theorem zg_putJ (hexec : p.tables.exec = Jvm.exec) (hb : c.code = cc) {own ref C : String} {T : u_T} {N ci index : Nat} {Ts : List Cond} (hts : ∀ w ∈ Ts, w.before args s = true) (hin : ∀ w ∈ u_ws C T N, w ∈ Ts) (ty0 : Nat → FieldType) (hty : ∀ k, k < N → parseFieldDescriptor (T k).2.2.1 = some (ty0 k)) (hnm : ∀ a, a < N → ∀ b, b < N → a ≠ b → (T a).2.1 ≠ (T b).2.1)
    (hown : s.vm.findClass own = some m.cls) (hK : va_K D classes (zh_tys dA) s) {a : Nat} (ho : zh_oo x a ci) (hc : classes[ci]? = some (C, T, N)) (hn : zh_n ci = N) (k : Nat) (hk : k < N) (hlink : (Cond.fieldLink own index ref (T k).2.1 (T k).2.2.1).before args s = true) (hsame : ∀ y, s.fieldFound? (T k).1 (T k).2.1 (T k).2.2.1 = some y → s.fieldFound? ref (T k).2.1 (T k).2.2.1 = some y)
    (hfin : (T k).2.2.2 = false ∨ ((T k).2.2.2 = true ∧ meth.name = "<init>" ∧ (T k).1 = own)) {ty : FieldType} {v : Int64} (hd : parseFieldDescriptor (T k).2.2.1 = some ty) (hnr : narrow ty (.long v) = .long v) (hfit : fits ty (.long v) = true) (hf0 : zh_f ci k = 1) {y : zh_S} (hy : y = zh_uJ x a k v)
    (hdg : decode cc pc = .ok (.putfield index, 3)) (hpc : pc + 3 = pc') (kk : zg_G p l e R s m args below meth c Q h0 D dA nL c0 s0 z y pc' lv st) : zg_G p l e R s m args below meth c Q h0 D dA nL c0 s0 z x pc lv (.long v :: .ref (h0 + a) :: st) := by
  subst hy
  exact zg_put0 (y := zh_uJ x a k v) hexec hb hts hin ty0 hty hnm hown hK ho hc hn k hk hlink hsame hfin hd hnr hfit rfl rfl rfl (fun b hb => zh_ne_uJ hb) (zh_fv_uJ hf0) hdg hpc kk
theorem zg_putR (hexec : p.tables.exec = Jvm.exec) (hb : c.code = cc) {own ref C : String} {T : u_T} {N ci index : Nat} {Ts : List Cond} (hts : ∀ w ∈ Ts, w.before args s = true) (hin : ∀ w ∈ u_ws C T N, w ∈ Ts) (ty0 : Nat → FieldType) (hty : ∀ k, k < N → parseFieldDescriptor (T k).2.2.1 = some (ty0 k)) (hnm : ∀ a, a < N → ∀ b, b < N → a ≠ b → (T a).2.1 ≠ (T b).2.1)
    (hown : s.vm.findClass own = some m.cls) (hK : va_K D classes (zh_tys dA) s) {a : Nat} (ho : zh_oo x a ci) (hc : classes[ci]? = some (C, T, N)) (hn : zh_n ci = N) (k : Nat) (hk : k < N) (hlink : (Cond.fieldLink own index ref (T k).2.1 (T k).2.2.1).before args s = true) (hsame : ∀ y, s.fieldFound? (T k).1 (T k).2.1 (T k).2.2.1 = some y → s.fieldFound? ref (T k).2.1 (T k).2.2.1 = some y)
    (hfin : (T k).2.2.2 = false ∨ ((T k).2.2.2 = true ∧ meth.name = "<init>" ∧ (T k).1 = own)) {ty : FieldType} {v : Option Nat} {w : Value} (hd : parseFieldDescriptor (T k).2.2.1 = some ty) (hnr : narrow ty w = w) (hfit : fits ty w = true) (hf0 : zh_f ci k = 2) {y : zh_S} (hy : y = zh_uR x a k v)
    (hdg : decode cc pc = .ok (.putfield index, 3)) (hpc : pc + 3 = pc') (kk : zg_G p l e R s m args below meth c Q h0 D dA nL c0 s0 z y pc' lv st) (hw : va_rf (v.map (h0 + ·)) = w := by rfl) : zg_G p l e R s m args below meth c Q h0 D dA nL c0 s0 z x pc lv (w :: .ref (h0 + a) :: st) := by
  subst hy
  exact zg_put0 (y := zh_uR x a k v) hexec hb hts hin ty0 hty hnm hown hK ho hc hn k hk hlink hsame hfin hd hnr hfit rfl rfl rfl (fun b hb => zh_ne_uR hb) (by rw [zh_fv_uR hf0, hw]) hdg hpc kk
theorem zg_recv (hK : va_K D classes (zh_tys dA) s) {H : Heap} (hI : zh_mI h0 D dA x H) {a ci : Nat} (ho : zh_oo x a ci) {q : vw_C} (hc : classes[ci]? = some q) : ∃ cell : Cell, H[h0 + a]? = some cell ∧ cell.vm.isStatics = false ∧ s.vm.findClass q.1 = some cell.cls := by
  have hat := hI.2 a ho.2
  rw [zh_obj ho] at hat
  exact va_recv hK (zh_one hat) hc (q0 := 0) rfl
theorem zg_iald (hexec : p.tables.exec = Jvm.exec) (hb : c.code = cc) (hK : va_K D classes (zh_tys dA) s) {a : Nat} {i : Int32} (ho : zh_oa x a 0 i) (hdg : decode cc pc = .ok (.iaload, 1)) (hpc : pc + 1 = pc')
    (kk : zg_G p l e R s m args below meth c Q h0 D dA nL c0 s0 z x pc' lv (.int (zh_I x a i.toNatClampNeg) :: st)) : zg_G p l e R s m args below meth c Q h0 D dA nL c0 s0 z x pc lv (.int i :: .ref (h0 + a) :: st) := by
  subst hpc
  refine ⟨kk.1, fun H locs ls k' j h1 h2 hI hS hl => ?_⟩
  have hat := hI.2 a ho.2.1
  rw [zh_ia ho.1] at hat
  exact va_iald hexec hb hK (zh_one hat) 0 0 rfl rfl (zh_in ho.2.2.1 ho.2.2.2) hdg (kk.2 H locs ls k' j h1 h2 hI hS hl)
theorem zg_lald (hexec : p.tables.exec = Jvm.exec) (hb : c.code = cc) (hK : va_K D classes (zh_tys dA) s) {a : Nat} {i : Int32} (ho : zh_oa x a 1 i) (hdg : decode cc pc = .ok (.laload, 1)) (hpc : pc + 1 = pc')
    (kk : zg_G p l e R s m args below meth c Q h0 D dA nL c0 s0 z x pc' lv (.long (zh_J x a i.toNatClampNeg) :: st)) : zg_G p l e R s m args below meth c Q h0 D dA nL c0 s0 z x pc lv (.int i :: .ref (h0 + a) :: st) := by
  subst hpc
  refine ⟨kk.1, fun H locs ls k' j h1 h2 hI hS hl => ?_⟩
  have hat := hI.2 a ho.2.1
  rw [zh_la ho.1] at hat
  exact va_lald hexec hb hK (zh_one hat) 0 1 rfl rfl (zh_in ho.2.2.1 ho.2.2.2) hdg (kk.2 H locs ls k' j h1 h2 hI hS hl)
theorem zg_aald (hexec : p.tables.exec = Jvm.exec) (hb : c.code = cc) (hK : va_K D classes (zh_tys dA) s) {a t t0 : Nat} {C : String} (ht : (zh_tys dA)[t0]? = some (dA (t + 3), .object C)) {i : Int32} (ho : zh_oa x a (t + 3) i) {b : Nat} (hr : zh_R x a i.toNatClampNeg = some b) (hdg : decode cc pc = .ok (.aaload, 1)) (hpc : pc + 1 = pc')
    (kk : zg_G p l e R s m args below meth c Q h0 D dA nL c0 s0 z x pc' lv (.ref (h0 + b) :: st)) : zg_G p l e R s m args below meth c Q h0 D dA nL c0 s0 z x pc lv (.int i :: .ref (h0 + a) :: st) := by
  subst hpc
  refine ⟨kk.1, fun H locs ls k' j h1 h2 hI hS hl => ?_⟩
  have hat := hI.2 a ho.2.1
  rw [zh_ra ho.1] at hat
  have e9 : va_rf ((zh_R x a i.toNatClampNeg).map (h0 + ·)) = .ref (h0 + b) := by rw [hr]; rfl
  refine va_aldq hexec hb hK (zh_one hat) 0 t0 rfl ht (zh_in ho.2.2.1 ho.2.2.2) hdg ?_
  show W p l e R s m args below meth c H locs k' j Q (F0 m (pc + 1) ls (va_rf ((zh_R x a i.toNatClampNeg).map (h0 + ·)) :: st))
  rw [e9]
  exact kk.2 H locs ls k' j h1 h2 hI hS hl
theorem zg_iast (hexec : p.tables.exec = Jvm.exec) (hb : c.code = cc) (hK : va_K D classes (zh_tys dA) s) {a : Nat} {i v : Int32} (ho : zh_oa x a 0 i) {y : zh_S} (hy : y = zh_uI x a i.toNatClampNeg v) (hdg : decode cc pc = .ok (.iastore, 1)) (hpc : pc + 1 = pc')
    (kk : zg_G p l e R s m args below meth c Q h0 D dA nL c0 s0 z y pc' lv st) : zg_G p l e R s m args below meth c Q h0 D dA nL c0 s0 z x pc lv (.int v :: .int i :: .ref (h0 + a) :: st) := by
  subst hpc; subst hy
  refine ⟨kk.1, fun H locs ls k' j h1 h2 hI hS hl => ?_⟩
  have hat := hI.2 a ho.2.1
  rw [zh_ia ho.1] at hat
  have hat : H[h0 + a]? = some (vp_cell (dA 0) ((zh_K x a).2, .inl (zh_I x a))) := hat
  refine W.iast hexec hb hat ((hK.2 0 _ rfl).1 (zh_K x a).2 (fun j => .int (zh_I x a j))) (fun q => by cases q) (by show ¬ (i < 0 ∨ (arrV _ _ _).slots.size ≤ _); rw [arrV_size]; exact zh_in ho.2.2.1 ho.2.2.2) rfl rfl hdg fun H1 e1 z1 oq => ?_
  refine kk.2 H1 _ ls k' j h1 h2 (zh_set hI z1 oq rfl (fun b hb => zh_ne_uI hb) ?_) (hS.put z1 oq (Nat.le_add_right h0 a)) hl
  rw [zh_ia (show (zh_K (zh_uI x a i.toNatClampNeg v) a).1 = 0 from ho.1)]
  show H1[h0 + a]? = some (vp_cell (dA 0) ((zh_K x a).2, .inl (zh_I (zh_uI x a i.toNatClampNeg v) a)))
  have e2 : zh_I (zh_uI x a i.toNatClampNeg v) a = va_up (zh_I x a) i.toNatClampNeg v := by show va_up x.1 a _ a = _; rw [va_up_self]; rfl
  rw [e1, e2, vp_cell_i, vp_cell_i, arrV_store]
  congr 2
  funext q
  by_cases hq : q = i.toNatClampNeg
  · subst hq; simp [updV, va_up]
  · simp [updV, va_up, hq]
theorem zg_last (hexec : p.tables.exec = Jvm.exec) (hb : c.code = cc) (hK : va_K D classes (zh_tys dA) s) {a : Nat} {i : Int32} {v : Int64} (ho : zh_oa x a 1 i) {y : zh_S} (hy : y = zh_uJ x a i.toNatClampNeg v) (hdg : decode cc pc = .ok (.lastore, 1)) (hpc : pc + 1 = pc')
    (kk : zg_G p l e R s m args below meth c Q h0 D dA nL c0 s0 z y pc' lv st) : zg_G p l e R s m args below meth c Q h0 D dA nL c0 s0 z x pc lv (.long v :: .int i :: .ref (h0 + a) :: st) := by
  subst hpc; subst hy
  refine ⟨kk.1, fun H locs ls k' j h1 h2 hI hS hl => ?_⟩
  have hat := hI.2 a ho.2.1
  rw [zh_la ho.1] at hat
  have hat : H[h0 + a]? = some (vp_cell (dA 1) ((zh_K x a).2, .inr (.inl (zh_J x a)))) := hat
  refine W.last hexec hb hat ((hK.2 1 _ rfl).1 (zh_K x a).2 (fun j => .long (zh_J x a j))) (fun q => by cases q) (by show ¬ (i < 0 ∨ (arrV _ _ _).slots.size ≤ _); rw [arrV_size]; exact zh_in ho.2.2.1 ho.2.2.2) rfl rfl hdg fun H1 e1 z1 oq => ?_
  refine kk.2 H1 _ ls k' j h1 h2 (zh_set hI z1 oq rfl (fun b hb => zh_ne_uJ hb) ?_) (hS.put z1 oq (Nat.le_add_right h0 a)) hl
  rw [zh_la (show (zh_K (zh_uJ x a i.toNatClampNeg v) a).1 = 1 from ho.1)]
  show H1[h0 + a]? = some (vp_cell (dA 1) ((zh_K x a).2, .inr (.inl (zh_J (zh_uJ x a i.toNatClampNeg v) a))))
  have e2 : zh_J (zh_uJ x a i.toNatClampNeg v) a = va_up (zh_J x a) i.toNatClampNeg v := by show va_up x.2.1 a _ a = _; rw [va_up_self]; rfl
  rw [e1, e2, vp_cell_l, vp_cell_l, arrV_store]
  congr 2
  funext q
  by_cases hq : q = i.toNatClampNeg
  · subst hq; simp [updV, va_up]
  · simp [updV, va_up, hq]
/-- an object's reference into an array of references -/
theorem zg_aast (hexec : p.tables.exec = Jvm.exec) (hb : c.code = cc) (hK : va_K D classes (zh_tys dA) s) {a t t0 b ci : Nat} {r : vw_C} (ht : (zh_tys dA)[t0]? = some (dA (t + 3), .object r.1)) {i : Int32} (ho : zh_oa x a (t + 3) i) (hv : zh_oo x b ci) (hc : classes[ci]? = some r) {y : zh_S} (hy : y = zh_uR x a i.toNatClampNeg (some b)) (hdg : decode cc pc = .ok (.aastore, 1)) (hpc : pc + 1 = pc')
    (kk : zg_G p l e R s m args below meth c Q h0 D dA nL c0 s0 z y pc' lv st) : zg_G p l e R s m args below meth c Q h0 D dA nL c0 s0 z x pc lv (.ref (h0 + b) :: .int i :: .ref (h0 + a) :: st) := by
  subst hpc; subst hy
  refine ⟨kk.1, fun H locs ls k' j h1 h2 hI hS hl => ?_⟩
  have hat := hI.2 a ho.2.1
  rw [zh_ra ho.1] at hat
  have hat : H[h0 + a]? = some (vp_cell (dA (t + 3)) ((zh_K x a).2, .inr (.inr (.inr (.inr (fun k => (zh_R x a k).map (h0 + ·))))))) := hat
  have hbt := hI.2 b hv.2
  rw [zh_obj hv] at hbt
  obtain ⟨r', hr', cellV, g1, g2, g3, -⟩ := hbt
  have hcls := (hK.1 ci r hc).2
  obtain ⟨kA, comp, k1, k2, k3, -⟩ := (hK.2 t0 _ ht).2
  have hcomp : comp = D.1 ci := Option.some.inj (k3.symm.trans hcls.1)
  subst hcomp
  obtain ⟨kC, hkC, -⟩ := hcls.2
  refine W.aast hexec hb hat (fun q h => by cases h) (fun h => by cases h) k1 k2 rfl hkC ⟨ho.2.2.1, by show _ < (arrV _ _ _).slots.size; rw [arrV_size]; exact ho.2.2.2⟩ g1 (fun q h => by rw [g3] at h; cases h) (by rw [g2]; exact hkC) (by rw [g2]; exact va_assign hcls) rfl rfl hdg fun H1 e1 z1 oq => ?_
  refine kk.2 H1 _ ls k' j h1 h2 (zh_set hI z1 oq rfl (fun b hb => zh_ne_uR hb) ?_) (hS.put z1 oq (Nat.le_add_right h0 a)) hl
  rw [zh_ra (show (zh_K (zh_uR x a i.toNatClampNeg (some b)) a).1 = t + 3 from ho.1)]
  show H1[h0 + a]? = some (vp_cell (dA (t + 3)) ((zh_K x a).2, .inr (.inr (.inr (.inr (fun k => (zh_R (zh_uR x a i.toNatClampNeg (some b)) a k).map (h0 + ·)))))))
  have e2 : zh_R (zh_uR x a i.toNatClampNeg (some b)) a = va_up (zh_R x a) i.toNatClampNeg (some b) := by show va_up x.2.2.1 a _ a = _; rw [va_up_self]; rfl
  rw [e1, e2, vp_cell_q, vp_cell_q, arrV_store]
  congr 2
  funext q
  by_cases hq : q = i.toNatClampNeg
  · subst hq; simp [updV, va_up, va_rf]
  · simp [updV, va_up, hq]
theorem zg_ralen (hexec : p.tables.exec = Jvm.exec) (hb : c.code = cc) (hK : va_K D classes (zh_tys dA) s) {a t t0 : Nat} {C : String} (ht : (zh_tys dA)[t0]? = some (dA (t + 3), .object C)) (ho : zh_ol x a (t + 3)) (hdg : decode cc pc = .ok (.arraylength, 1)) (hpc : pc + 1 = pc')
    (kk : zg_G p l e R s m args below meth c Q h0 D dA nL c0 s0 z x pc' lv (.int (Int32.ofNat (zh_K x a).2) :: st)) : zg_G p l e R s m args below meth c Q h0 D dA nL c0 s0 z x pc lv (.ref (h0 + a) :: st) := by
  subst hpc
  refine ⟨kk.1, fun H locs ls k' j h1 h2 hI hS hl => ?_⟩
  have hat := hI.2 a ho.2
  rw [zh_ra ho.1] at hat
  exact va_alen hexec hb hK (zh_one hat) 0 t0 rfl ht rfl hdg (kk.2 H locs ls k' j h1 h2 hI hS hl)
/-- the room at the end is the claim's -/
abbrev zg_R (R : Room) (c0 s0 : Nat) (z : zh_S) : Prop := zh_N z ≤ c0 + R.cells ∧ zh_M z ≤ s0 + R.slots
def zh_dv : Nat → Value
  | 0 => .int 0
  | 1 => .long 0
  | _ => .null
theorem zh_fv_new {h0 : Nat} {x : zh_S} {ci k sl : Nat} : zh_fv h0 (zh_new x (2, ci) sl) ci (zh_N x) k = zh_dv (zh_f ci k) := by
  have e1 : zh_I (zh_new x (2, ci) sl) (zh_N x) k = 0 := by show va_up x.1 (zh_N x) _ (zh_N x) k = 0; rw [va_up_self]
  have e2 : zh_J (zh_new x (2, ci) sl) (zh_N x) k = 0 := by show va_up x.2.1 (zh_N x) _ (zh_N x) k = 0; rw [va_up_self]
  have e3 : zh_R (zh_new x (2, ci) sl) (zh_N x) k = none := by show va_up x.2.2.1 (zh_N x) _ (zh_N x) k = none; rw [va_up_self]
  unfold zh_fv
  rw [e1, e2, e3]
  unfold zh_dv
  split <;> simp_all [va_rf]
theorem zh_ne_new {h0 : Nat} {dA : Nat → ClassId} {x : zh_S} {kd : Nat × Nat} {sl b : Nat} (h : b ≠ zh_N x) : zh_ce h0 dA (zh_new x kd sl) b = zh_ce h0 dA x b := by
  have e1 : zh_I (zh_new x kd sl) b = zh_I x b := by show va_up x.1 (zh_N x) _ b = x.1 b; rw [va_up_ne _ _ h]
  have e2 : zh_J (zh_new x kd sl) b = zh_J x b := by show va_up x.2.1 (zh_N x) _ b = x.2.1 b; rw [va_up_ne _ _ h]
  have e3 : zh_R (zh_new x kd sl) b = zh_R x b := by show va_up x.2.2.1 (zh_N x) _ b = x.2.2.1 b; rw [va_up_ne _ _ h]
  have e4 : zh_K (zh_new x kd sl) b = zh_K x b := by show va_up x.2.2.2.1 (zh_N x) _ b = x.2.2.2.1 b; rw [va_up_ne _ _ h]
  have f : ∀ ci, zh_fv h0 (zh_new x kd sl) ci b = zh_fv h0 x ci b := fun ci => by
    funext j; unfold zh_fv; rw [e1, e2, e3]
  unfold zh_ce
  rw [e1, e2, e3, e4]
  simp only [f]
theorem zh_K_new {x : zh_S} {kd : Nat × Nat} {sl : Nat} : zh_K (zh_new x kd sl) (zh_N x) = kd := by show va_up x.2.2.2.1 (zh_N x) kd (zh_N x) = kd; rw [va_up_self]
theorem zg_new (hexec : p.tables.exec = Jvm.exec) (hb : c.code = cc) {own C : String} {T : u_T} {N ci index : Nat} {Ts : List Cond} (hts : ∀ w ∈ Ts, w.before args s = true) (hin : ∀ w ∈ u_ws C T N, w ∈ Ts) (ty : Nat → FieldType) (hty : ∀ k, k < N → parseFieldDescriptor (T k).2.2.1 = some (ty k)) (hown : s.vm.findClass own = some m.cls) (hcl : (Cond.classLink own index C).before args s = true) (hinst : (Cond.instantiable C N).before args s = true) (hini : (Cond.initialized C).before args s = true)
    (hK : va_K D classes (zh_tys dA) s) (hc : classes[ci]? = some (C, T, N)) (hn : zh_n ci = N) (hdef : ∀ j, j < N → defaultValue (ty j) = zh_dv (zh_f ci j)) (hR : zg_R R c0 s0 z) {y : zh_S} (hy : y = zh_new x (2, ci) N) {b : Nat} (hbn : b = zh_N x) (hdg : decode cc pc = .ok (.new index, 3)) (hpc : pc + 3 = pc')
    (kk : zg_G p l e R s m args below meth c Q h0 D dA nL c0 s0 z y pc' lv (.ref (h0 + b) :: st)) : zg_G p l e R s m args below meth c Q h0 D dA nL c0 s0 z x pc lv st := by
  subst hpc; subst hy; subst hbn
  have m1 : zh_N x + 1 ≤ zh_N z := kk.1.1
  have m2 : zh_M x + N ≤ zh_M z := kk.1.2
  refine ⟨⟨by omega, by omega⟩, fun H locs ls k' j h1 h2 hI hS hl => ?_⟩
  have hKn := hK.1 ci _ hc
  have r1 := hR.1
  have r2 := hR.2
  refine W.newcK hexec hb hown hcl hinst hini rfl hdg (by omega) (by omega) hKn.2.1 hI.1 fun H1 kC hkC e1 z1 o1 => ?_
  refine kk.2 H1 locs ls (k' + 1) (j + N) (by show zh_N x + 1 = _; omega) (by show zh_M x + N = _; omega) (zh_push hI (by rw [z1, hI.1]) (fun q hq => o1 q (by rw [← hI.1]; exact hq)) rfl (fun b hb => zh_ne_new hb) ?_) ⟨by rw [z1]; have := hS.1; rw [hI.1] at this; omega, fun q g1 g2 => (o1 q (by have := hS.1; rw [hI.1] at this; omega)).trans (hS.2.1 q g1 g2), hS.2.2⟩ hl
  rw [zh_obj (show zh_oo (zh_new x (2, ci) N) (zh_N x) ci from ⟨zh_K_new, Nat.lt_succ_self _⟩), hI.1]
  refine ⟨_, hc, (u_born ty hts hin hKn hkC e1 hty).to (fun q hq => ?_)⟩
  rw [hdef q hq, ← zh_fv_new (h0 := h0) (x := x) (sl := N)]
  have hq' : q < zh_n ci := by rw [hn]; exact hq
  simp [vp_V, hq']
end ZG
end
section
/-! New arrays, arraycopy, contracts, calls, ends. -/
section ZN
variable {p : Program} {l : Launch} {e : Env} {R : Room} {s : State} {m : MethodId} {args : Array Value} {below : List Frame} {meth : Method} {c : Code} {Q : State → Prop} {h0 : Nat} {D : va_G} {dA : Nat → ClassId} {nL c0 s0 : Nat} {z x : zh_S} {pc pc' : Nat} {lv : List (Nat × Value)} {st : List Value} {cc : ByteArray}
theorem zg_newi (hexec : p.tables.exec = Jvm.exec) (hb : c.code = cc) (harr : (Cond.arrayClass .int).before args s = true) (hK : va_K D classes (zh_tys dA) s) (hR : zg_R R c0 s0 z) {i : Int32} (ho : ¬ i < 0 ∧ i.toNatClampNeg ≤ 1000) {y : zh_S} (hy : y = zh_new x (0, i.toNatClampNeg) i.toNatClampNeg) {b : Nat} (hbn : b = zh_N x) (hdg : decode cc pc = .ok (.newarray .int, 2)) (hpc : pc + 2 = pc')
    (kk : zg_G p l e R s m args below meth c Q h0 D dA nL c0 s0 z y pc' lv (.ref (h0 + b) :: st)) : zg_G p l e R s m args below meth c Q h0 D dA nL c0 s0 z x pc lv (.int i :: st) := by
  subst hpc; subst hy; subst hbn
  have m1 : zh_N x + 1 ≤ zh_N z := kk.1.1
  have m2 : zh_M x + i.toNatClampNeg ≤ zh_M z := kk.1.2
  have r1 := hR.1
  have r2 := hR.2
  have o2 := ho.2
  refine ⟨⟨by omega, by omega⟩, fun H locs ls k' j h1 h2 hI hS hl => ?_⟩
  refine va_newaK (atype := .int) hexec hb harr rfl hdg rfl ho.1 rfl (by show i.toNatClampNeg * 4 ≤ _; omega) (by omega) (by omega) hI.1 fun H1 cA e1 z1 o1 _ hNm => ?_
  have hcA : cA = dA 0 := Option.some.inj (hNm.symm.trans (hK.2 0 _ rfl).2)
  subst hcA
  refine kk.2 H1 locs ls (k' + 1) (j + i.toNatClampNeg) (by show zh_N x + 1 = _; omega) (by show zh_M x + i.toNatClampNeg = _; omega) (zh_push hI (by rw [z1, hI.1]) (fun q hq => o1 q (by rw [← hI.1]; exact hq)) rfl (fun b hb => zh_ne_new hb) ?_) ⟨by rw [z1]; have := hS.1; rw [hI.1] at this; omega, fun q g1 g2 => (o1 q (by have := hS.1; rw [hI.1] at this; omega)).trans (hS.2.1 q g1 g2), hS.2.2⟩ hl
  have eI : zh_I (zh_new x (0, i.toNatClampNeg) i.toNatClampNeg) (zh_N x) = fun _ => 0 := by show va_up x.1 (zh_N x) _ (zh_N x) = _; rw [va_up_self]
  rw [zh_ia (by rw [zh_K_new]), eI, zh_K_new, hI.1]
  exact e1
theorem zg_newl (hexec : p.tables.exec = Jvm.exec) (hb : c.code = cc) (harr : (Cond.arrayClass .long).before args s = true) (hK : va_K D classes (zh_tys dA) s) (hR : zg_R R c0 s0 z) {i : Int32} (ho : ¬ i < 0 ∧ i.toNatClampNeg ≤ 1000) {y : zh_S} (hy : y = zh_new x (1, i.toNatClampNeg) i.toNatClampNeg) {b : Nat} (hbn : b = zh_N x) (hdg : decode cc pc = .ok (.newarray .long, 2)) (hpc : pc + 2 = pc')
    (kk : zg_G p l e R s m args below meth c Q h0 D dA nL c0 s0 z y pc' lv (.ref (h0 + b) :: st)) : zg_G p l e R s m args below meth c Q h0 D dA nL c0 s0 z x pc lv (.int i :: st) := by
  subst hpc; subst hy; subst hbn
  have m1 : zh_N x + 1 ≤ zh_N z := kk.1.1
  have m2 : zh_M x + i.toNatClampNeg ≤ zh_M z := kk.1.2
  have r1 := hR.1
  have r2 := hR.2
  have o2 := ho.2
  refine ⟨⟨by omega, by omega⟩, fun H locs ls k' j h1 h2 hI hS hl => ?_⟩
  refine va_newaK (atype := .long) hexec hb harr rfl hdg rfl ho.1 rfl (by show i.toNatClampNeg * 8 ≤ _; omega) (by omega) (by omega) hI.1 fun H1 cA e1 z1 o1 _ hNm => ?_
  have hcA : cA = dA 1 := Option.some.inj (hNm.symm.trans (hK.2 1 _ rfl).2)
  subst hcA
  refine kk.2 H1 locs ls (k' + 1) (j + i.toNatClampNeg) (by show zh_N x + 1 = _; omega) (by show zh_M x + i.toNatClampNeg = _; omega) (zh_push hI (by rw [z1, hI.1]) (fun q hq => o1 q (by rw [← hI.1]; exact hq)) rfl (fun b hb => zh_ne_new hb) ?_) ⟨by rw [z1]; have := hS.1; rw [hI.1] at this; omega, fun q g1 g2 => (o1 q (by have := hS.1; rw [hI.1] at this; omega)).trans (hS.2.1 q g1 g2), hS.2.2⟩ hl
  have eI : zh_J (zh_new x (1, i.toNatClampNeg) i.toNatClampNeg) (zh_N x) = fun _ => 0 := by show va_up x.2.1 (zh_N x) _ (zh_N x) = _; rw [va_up_self]
  rw [zh_la (by rw [zh_K_new]), eI, zh_K_new, hI.1]
  exact e1
theorem zg_newr (hexec : p.tables.exec = Jvm.exec) (hb : c.code = cc) {own C : String} {index t t0 : Nat} (hown : s.vm.findClass own = some m.cls) (hclink : (Cond.classLink own index C).before args s = true) (hover : va_AO C s) (hK : va_K D classes (zh_tys dA) s) (ht : (zh_tys dA)[t0]? = some (dA (t + 3), .object C)) (hR : zg_R R c0 s0 z) {i : Int32} (ho : ¬ i < 0 ∧ i.toNatClampNeg ≤ 1000) {y : zh_S} (hy : y = zh_new x (t + 3, i.toNatClampNeg) i.toNatClampNeg) {b : Nat} (hbn : b = zh_N x) (hdg : decode cc pc = .ok (.anewarray index, 3)) (hpc : pc + 3 = pc')
    (kk : zg_G p l e R s m args below meth c Q h0 D dA nL c0 s0 z y pc' lv (.ref (h0 + b) :: st)) : zg_G p l e R s m args below meth c Q h0 D dA nL c0 s0 z x pc lv (.int i :: st) := by
  subst hpc; subst hy; subst hbn
  have m1 : zh_N x + 1 ≤ zh_N z := kk.1.1
  have m2 : zh_M x + i.toNatClampNeg ≤ zh_M z := kk.1.2
  have r1 := hR.1
  have r2 := hR.2
  have o2 := ho.2
  refine ⟨⟨by omega, by omega⟩, fun H locs ls k' j h1 h2 hI hS hl => ?_⟩
  refine W.anew hexec hb hown hclink (va_AO.use hover) rfl hdg rfl ho.1 (by omega) (by omega) (by omega) fun cA kA comp f1 f2 f3 f4 => ?_
  obtain ⟨kA', comp', -, -, -, hfc⟩ := (hK.2 t0 _ ht).2
  have hcA : cA = dA (t + 3) := Option.some.inj (f1.symm.trans hfc)
  subst hcA
  generalize hH1 : H.push ({ cls := dA (t + 3), slots := Array.replicate i.toNatClampNeg .null, vm := .none } : Cell) = H1
  have z1 : H1.size = H.size + 1 := by rw [← hH1, Array.size_push]
  have e1 : H1[H.size]? = some (arrV (dA (t + 3)) i.toNatClampNeg (fun _ => .null)) := by rw [← hH1, Array.getElem?_push_size, ← arrV_new]
  have o1 : ∀ q : Nat, q < H.size → H1[q]? = H[q]? := fun q hq => by rw [← hH1, Array.getElem?_push, if_neg (Nat.ne_of_lt hq)]
  show W p l e R s m args below meth c H1 locs (k' + 1) (j + i.toNatClampNeg) Q (F0 m (pc + 3) ls (.ref H.size :: st))
  rw [hI.1]
  refine kk.2 H1 locs ls (k' + 1) (j + i.toNatClampNeg) (by show zh_N x + 1 = _; omega) (by show zh_M x + i.toNatClampNeg = _; omega) (zh_push hI z1 o1 rfl (fun b hb => zh_ne_new hb) ?_) ⟨by rw [z1]; have := hS.1; omega, fun q g1 g2 => (o1 q (by have := hS.1; omega)).trans (hS.2.1 q g1 g2), hS.2.2⟩ hl
  have eI : zh_R (zh_new x (t + 3, i.toNatClampNeg) i.toNatClampNeg) (zh_N x) = fun _ => none := by show va_up x.2.2.1 (zh_N x) _ (zh_N x) = _; rw [va_up_self]
  rw [zh_ra (t := t) (by rw [zh_K_new]), eI, zh_K_new]
  exact e1
end ZN
/-- what stands of the tables of Numbers (they lie below h0, nobody writes them) -/
def zh_St (h0 : Nat) (tb : Nat → Nat) (U : State) (H : Heap) : Prop :=
  (va_Z zr_Numbers "MODULI" "[J" (.ref (tb 0)) (fun q => h0 ≤ q) U H ∧ va_T .long (tb 0) 6 (fun j => .long (zt_MODULI j)) (fun q => h0 ≤ q) U H) ∧
  (va_Z zr_Numbers "EXPONENTS" "[J" (.ref (tb 1)) (fun q => h0 ≤ q) U H ∧ va_T .long (tb 1) 6 (fun j => .long (zt_EXPONENTS j)) (fun q => h0 ≤ q) U H) ∧
  (va_Z zr_Numbers "PRIVATE_EXPONENTS" "[J" (.ref (tb 2)) (fun q => h0 ≤ q) U H ∧ va_T .long (tb 2) 6 (fun j => .long (zt_PRIVATE_EXPONENTS j)) (fun q => h0 ≤ q) U H)
theorem zh_St.moved {h0 : Nat} {tb : Nat → Nat} {u U : State} {H : Heap} (hvm : u.vm.Alike U.vm) (h : zh_St h0 tb u H) : zh_St h0 tb U H :=
  ⟨⟨h.1.1.moved hvm, h.1.2.moved hvm⟩, ⟨h.2.1.1.moved hvm, h.2.1.2.moved hvm⟩, ⟨h.2.2.1.moved hvm, h.2.2.2.moved hvm⟩⟩
theorem zh_St.kept {h0 : Nat} {tb : Nat → Nat} {U : State} {H H1 : Heap} (h : zh_St h0 tb U H) (hq : ∀ a : Nat, a < H.size → ¬ h0 ≤ a → H1[a]? = H[a]?) : zh_St h0 tb U H1 :=
  ⟨⟨h.1.1.kept hq, h.1.2.kept hq⟩, ⟨h.2.1.1.kept hq, h.2.1.2.kept hq⟩, ⟨h.2.2.1.kept hq, h.2.2.2.kept hq⟩⟩
/-- the nest mates' links and the classes of arrays -/
def zh_Ne (U : State) : Prop := (va_Nw (.methodLinkNest zr_V 9 zn_Draft_init "CertificateVault") U ∧ va_Nw (.methodLinkNest zr_V 18 zn_Tool_init "CertificateVault") U ∧ va_Nw (.methodLinkNest zr_Certificate 3 zn_Signed_init "CertificateVault") U ∧ va_Nw (.methodLinkNest zr_RevokedList 3 zn_Signed_init "CertificateVault") U ∧ va_Nw (.methodLinkNest zr_Shelf 30 zn_Certificate_init "CertificateVault") U ∧ va_Nw (.methodLinkNest zr_Shelf 31 zn_RevokedList_init "CertificateVault") U) ∧ va_AO zr_Certificate U ∧ va_AO zr_RevokedList U
theorem zh_ne0 {U : State} (h : zh_Ne U) : va_Nw (.methodLinkNest zr_V 9 zn_Draft_init "CertificateVault") U := h.1.1
theorem zh_ne1 {U : State} (h : zh_Ne U) : va_Nw (.methodLinkNest zr_V 18 zn_Tool_init "CertificateVault") U := h.1.2.1
theorem zh_ne2 {U : State} (h : zh_Ne U) : va_Nw (.methodLinkNest zr_Certificate 3 zn_Signed_init "CertificateVault") U := h.1.2.2.1
theorem zh_ne3 {U : State} (h : zh_Ne U) : va_Nw (.methodLinkNest zr_RevokedList 3 zn_Signed_init "CertificateVault") U := h.1.2.2.2.1
theorem zh_ne4 {U : State} (h : zh_Ne U) : va_Nw (.methodLinkNest zr_Shelf 30 zn_Certificate_init "CertificateVault") U := h.1.2.2.2.2.1
theorem zh_ne5 {U : State} (h : zh_Ne U) : va_Nw (.methodLinkNest zr_Shelf 31 zn_RevokedList_init "CertificateVault") U := h.1.2.2.2.2.2
theorem zh_Ne_warm {s U : State} (hW : s.WarmedH U.vm) (h : zh_Ne s) : zh_Ne U :=
  ⟨⟨h.1.1.warmM hW, h.1.2.1.warmM hW, h.1.2.2.1.warmM hW, h.1.2.2.2.1.warmM hW, h.1.2.2.2.2.1.warmM hW, h.1.2.2.2.2.2.warmM hW⟩, h.2.1.moved hW.alike, h.2.2.moved hW.alike⟩
theorem zh_Ne_same {s U : State} (e : s.vm = U.vm) (h : zh_Ne s) : zh_Ne U :=
  ⟨⟨h.1.1.same rfl e, h.1.2.1.same rfl e, h.1.2.2.1.same rfl e, h.1.2.2.2.1.same rfl e, h.1.2.2.2.2.1.same rfl e, h.1.2.2.2.2.2.same rfl e⟩, h.2.1.moved (by rw [e]; exact Vm.Alike.refl _), h.2.2.moved (by rw [e]; exact Vm.Alike.refl _)⟩
/-- what every method finds, and leaves -/
def zh_In (h0 : Nat) (D : va_G) (dA : Nat → ClassId) (tb : Nat → Nat) (x : zh_S) (U : State) : Prop :=
  zh_mI h0 D dA x U.heap ∧ va_K D classes (zh_tys dA) U ∧ zh_St h0 tb U U.heap ∧ zh_Ne U
theorem zh_In.go {h0 : Nat} {D : va_G} {dA : Nat → ClassId} {tb : Nat → Nat} {x y : zh_S} {s t : State} (h : zh_In h0 D dA tb x s) (hW : s.WarmedH t.vm) (hm : zh_mI h0 D dA y t.heap) (hF : ∀ q, q < s.heap.size → ¬ h0 ≤ q → t.heap[q]? = s.heap[q]?) : zh_In h0 D dA tb y t :=
  ⟨hm, va_K.moved hW.alike h.2.1, (h.2.2.1.kept hF).moved hW.alike, zh_Ne_warm hW h.2.2.2⟩
theorem zh_In_calling {h0 : Nat} {D : va_G} {dA : Nat → ClassId} {tb : Nat → Nat} {x : zh_S} {U : State} {g : JFrame} {mk : MethodId} {a : Array Value} (h : zh_In h0 D dA tb x U) : zh_In h0 D dA tb x (U.calling g mk a) :=
  ⟨h.1, va_K.moved (u := U) (U := U.calling g mk a) (Vm.Alike.refl U.vm) h.2.1, h.2.2.1.moved (u := U) (U := U.calling g mk a) (Vm.Alike.refl U.vm), zh_Ne_same (s := U) (U := U.calling g mk a) rfl h.2.2.2⟩
-- words
theorem zw_all {w : Cond} (h : w ∈ zw_T) : goodWord w = true := (List.mem_filter.mp h).2
theorem zw_g {c1 : Cond} (h : c1 ∈ zw_T) : GoodIn zw_T (c1 :: zw_T) := fun w hw => by
  rcases List.mem_cons.mp hw with rfl | hw
  · exact ⟨h, good_of_word (zw_all h)⟩
  · exact ⟨hw, good_of_word (zw_all hw)⟩
theorem zw_cons {a : Cond} {ws : List Cond} (h : a ∈ zw_T) (hg : GoodIn zw_T ws) : GoodIn zw_T (a :: ws) := fun w hw => by
  rcases List.mem_cons.mp hw with rfl | hw
  · exact ⟨h, good_of_word (zw_all h)⟩
  · exact hg w hw
theorem zw_gV {own C : String} {idx : Nat} {y : MethodName} {c1 : Cond} (h1 : (.methodLink own idx y : Cond) ∈ zw_T) (h2 : (.instanceMethod y : Cond) ∈ zw_T) (h3 : (.selects C y y : Cond) ∈ zw_T) (h4 : (.initialized C : Cond) ∈ zw_T) (h5 : c1 ∈ zw_T) : GoodIn zw_T (wsV own idx C y (c1 :: zw_T)) :=
  zw_cons h1 (zw_cons h2 (zw_cons h3 (zw_cons h4 (zw_g h5))))
theorem zw_gS {own : String} {idx : Nat} {y : MethodName} {c1 : Cond} (h1 : (.methodLink own idx y : Cond) ∈ zw_T) (h2 : (.static y : Cond) ∈ zw_T) (h3 : (.initialized y.cls : Cond) ∈ zw_T) (h5 : c1 ∈ zw_T) : GoodIn zw_T (va_wsS own idx y (c1 :: zw_T)) :=
  zw_cons h1 (zw_cons h2 (zw_cons h3 (zw_g h5)))
theorem zw_gU {own C owner : String} {idx : Nat} {x y : MethodName} {c1 : Cond} (h1 : (.methodLink own idx x : Cond) ∈ zw_T) (h2 : (.sameMethod x.cls owner x.name x.desc : Cond) ∈ zw_T) (h3 : (.selects C x y : Cond) ∈ zw_T) (h4 : (.instanceMethod y : Cond) ∈ zw_T) (h5 : (.initialized y.cls : Cond) ∈ zw_T) (h6 : c1 ∈ zw_T) : GoodIn zw_T (va_wsU own idx C owner x y (c1 :: zw_T)) :=
  zw_cons h1 (zw_cons h2 (zw_cons h3 (zw_cons h4 (zw_cons h5 (zw_g h6)))))
def zc_Q (h0 : Nat) (D : va_G) (dA : Nat → ClassId) (tb : Nat → Nat) (rv : Option Value) (y : zh_S) : Array Value → State → Outcome → State → Prop := fun _ st oc t => (oc = .returned rv ∧ zh_In h0 D dA tb y t) ∧ va_F (fun q => h0 ≤ q) st t
/-- the contract: method y, at the state x with the arguments av, answers rv and leaves y' -/
abbrev zc_M (l : Launch) (y : MethodName) (ws : List Cond) (fr lo : Nat) (h0 : Nat) (D : va_G) (dA : Nat → ClassId) (tb : Nat → Nat) (av : List Value) (x : zh_S) (rv : Option Value) (y' : zh_S) : Prop :=
  Met l y ws { frames := fr, cells := zh_N y' - zh_N x, slots := zh_M y' - zh_M x, locals := lo } (va_Pc av (fun U => zh_In h0 D dA tb x U)) (zc_Q h0 D dA tb rv y') (zh_N y' - zh_N x) (zh_M y' - zh_M x) (fun q => h0 ≤ q)
/-- what a walk knows of its method -/
def zg_X (p : Program) (s : State) (m : MethodId) (args : Array Value) (meth : Method) (c : Code) (cc : ByteArray) (nL : Nat) (own : String) (ret : Option FieldType) (h0 : Nat) (D : va_G) (dA : Nat → ClassId) (tb : Nat → Nat) : Prop :=
  p.tables.exec = Jvm.exec ∧ c.code = cc ∧ c.maxLocals = nL ∧ s.vm.findClass own = some m.cls ∧ (∀ w ∈ zw_T, w.before args s = true) ∧ meth.sig.returnType = ret ∧ meth.locks = false ∧ (∃ x, zh_In h0 D dA tb x s)
theorem zc_of {l : Launch} {y : MethodName} {ws : List Cond} {fr lo h0 : Nat} {D : va_G} {dA : Nat → ClassId} {tb : Nat → Nat} {av : List Value} {x y' : zh_S} {rv : Option Value} {cc : ByteArray} {maxL : Nat} {ret : Option FieldType} {lv : List (Nat × Value)} (hy : plainName y.cls = true) (hw : ws = Cond.code y cc maxL ret :: zw_T) (hn : (lg_sl av).length ≤ maxL) (hlv : lv_args 0 av = lv)
    (body : ∀ (p : Program) (e : Env) (s : State) (m : MethodId) (args : Array Value) (below : List Frame) (meth : Method) (c : Code), zg_X p s m args meth c cc maxL y.cls ret h0 D dA tb → meth.name = y.name →
      zg_G p l e { frames := fr, cells := zh_N y' - zh_N x, slots := zh_M y' - zh_M x, locals := lo } s m args below meth c (MQ below (zc_Q h0 D dA tb rv y') args s (zh_N y' - zh_N x) (zh_M y' - zh_M x) (fun q => h0 ≤ q)) h0 D dA maxL (zh_N x) (zh_M x) y' x 0 lv []) : zc_M l y ws fr lo h0 D dA tb av x rv y' := by
  refine Met.ofW (cc := cc) (maxL := maxL) (ret := ret) hy hw ?_
  intro p e s m args below meth c s₁ B hml hv
  obtain ⟨rfl, hIn⟩ := hv
  have hts0 := atoms_spec (ws := ws) B.pre
  have hts : ∀ w ∈ zw_T, w.before av.toArray s = true := fun w h => hts0 w (by rw [hw]; exact List.mem_cons_of_mem _ h)
  have hown : s.vm.findClass y.cls = some m.cls := findClass_of_methodNamed B.named
  have hl := lv_entry av (n := maxL) hn
  rw [lg_entry_eq]
  rw [hlv] at hl
  exact (body p e s m _ below meth c ⟨B.exec, B.bytes, hml, hown, hts, B.returns, B.notSynchronized, x, hIn⟩ (name_of_methodNamed B.named B.method).1).2 s.heap [] _ 0 0 rfl rfl hIn.1 va_S.rf hl
section ZC
variable {p : Program} {l : Launch} {e : Env} {R : Room} {s : State} {m : MethodId} {args : Array Value} {below : List Frame} {meth : Method} {c : Code} {Q : State → Prop} {h0 : Nat} {D : va_G} {dA : Nat → ClassId} {tb : Nat → Nat} {nL c0 s0 : Nat} {z x y : zh_S} {pc pc' : Nat} {lv : List (Nat × Value)} {st rest : List Value} {cc : ByteArray} {own : String} {ret : Option FieldType}
theorem zg_call {rv : Option Value} {a : Array Value} (X : zg_X p s m args meth c cc nL own ret h0 D dA tb) (hR : zg_R R c0 s0 z) (mono : zh_N x ≤ zh_N y ∧ zh_M x ≤ zh_M y)
    (hr : ∀ (H : Heap) (locs : List Loc) (ls : Array Slot) (k j : Nat), ls.size = nL → zh_mI h0 D dA x H → (∀ U : State, U.heap = H → s.WarmedH U.vm → zh_In h0 D dA tb x U) → k + (zh_N y - zh_N x) ≤ R.cells ∧ j + (zh_M y - zh_M x) ≤ R.slots →
      va_Run p l e R s m args below meth c H locs k j (zh_N y - zh_N x) (zh_M y - zh_M x) (F0 m pc ls st) rest (zc_Q h0 D dA tb rv y a) (fun q => h0 ≤ q))
    (hpc : pc + 3 = pc') (kk : zg_G p l e R s m args below meth c Q h0 D dA nL c0 s0 z y pc' lv (rv.toList ++ rest)) : zg_G p l e R s m args below meth c Q h0 D dA nL c0 s0 z x pc lv st := by
  subst hpc
  obtain ⟨m1, m2⟩ := kk.1
  obtain ⟨n1, n2⟩ := mono
  obtain ⟨r1, r2⟩ := hR
  refine ⟨⟨by omega, by omega⟩, fun H locs ls k j h1 h2 hI hS hl => ?_⟩
  obtain ⟨-, -, -, -, -, -, -, x0, hIn0⟩ := X
  have hU : ∀ U : State, U.heap = H → s.WarmedH U.vm → zh_In h0 D dA tb x U := fun U hU hW => hIn0.go hW (by rw [hU]; exact hI) (fun q g1 g2 => by rw [hU]; exact hS.2.1 q g1 g2)
  intro T hT X'
  obtain ⟨v, st₀, t, T', L, e0, X2, hL, e1, e2, ⟨⟨hv, hIn⟩, hz, hk⟩, go⟩ := hr H locs ls k j hl.1 hI hU ⟨by omega, by omega⟩ T hT X'
  cases hv
  rw [e0] at hz hk
  obtain ⟨t2, a1, b1⟩ := kk.2 T'.heap (locs ++ L) ls (k + (zh_N y - zh_N x)) (j + (zh_M y - zh_M x)) (by omega) (by omega) (by rw [e1]; exact hIn.1)
    ⟨Nat.le_trans hS.1 (by rw [e1]; exact hz), fun q g1 g2 => by rw [e1, hk q (Nat.lt_of_lt_of_le g1 hS.1) g2]; exact hS.2.1 q g1 g2, fun q hq => by
      rcases List.mem_append.mp hq with h | h
      · exact hS.2.2 q h
      · exact hL q h⟩ hl T' rfl X2
  exact ⟨t2, go t2 a1, b1⟩
/-- ends -/
theorem zg_vret (X : zg_X p s m args meth c cc nL own none h0 D dA tb) (hdg : decode cc pc = .ok (.return_, 1)) : zg_G p l e R s m args below meth c (MQ below (zc_Q h0 D dA tb none z) args s (zh_N z - c0) (zh_M z - s0) (fun q => h0 ≤ q)) h0 D dA nL c0 s0 z z pc lv [] := by
  obtain ⟨hx, hb, -, -, -, hr, hlk, x0, hIn0⟩ := X
  refine ⟨⟨Nat.le_refl _, Nat.le_refl _⟩, fun H locs ls k j h1 h2 hI hS hl => ?_⟩
  rw [show zh_N z - c0 = k by omega, show zh_M z - s0 = j by omega]
  exact W.vret hx hb hr (fun t ht hW => ⟨⟨rfl, hIn0.go hW (by rw [ht]; exact hI) (fun q g1 g2 => by rw [ht]; exact hS.2.1 q g1 g2)⟩, hS.F ht⟩) hS.2.2 hdg hlk
theorem zg_iret {ty : FieldType} {v : Int32} (X : zg_X p s m args meth c cc nL own (some ty) h0 D dA tb) (hn : narrow ty (.int v) = .int v) (hdg : decode cc pc = .ok (.ireturn, 1)) : zg_G p l e R s m args below meth c (MQ below (zc_Q h0 D dA tb (some (.int v)) z) args s (zh_N z - c0) (zh_M z - s0) (fun q => h0 ≤ q)) h0 D dA nL c0 s0 z z pc lv [.int v] := by
  obtain ⟨hx, hb, -, -, -, hr, hlk, x0, hIn0⟩ := X
  refine ⟨⟨Nat.le_refl _, Nat.le_refl _⟩, fun H locs ls k j h1 h2 hI hS hl => ?_⟩
  rw [show zh_N z - c0 = k by omega, show zh_M z - s0 = j by omega]
  exact W.zret hx hb hr hn (fun t ht hW => ⟨⟨rfl, hIn0.go hW (by rw [ht]; exact hI) (fun q g1 g2 => by rw [ht]; exact hS.2.1 q g1 g2)⟩, hS.F ht⟩) hS.2.2 hdg hlk
theorem zg_lret {v : Int64} (X : zg_X p s m args meth c cc nL own (some .long) h0 D dA tb) (hdg : decode cc pc = .ok (.lreturn, 1)) : zg_G p l e R s m args below meth c (MQ below (zc_Q h0 D dA tb (some (.long v)) z) args s (zh_N z - c0) (zh_M z - s0) (fun q => h0 ≤ q)) h0 D dA nL c0 s0 z z pc lv [.long v] := by
  obtain ⟨hx, hb, -, -, -, hr, hlk, x0, hIn0⟩ := X
  refine ⟨⟨Nat.le_refl _, Nat.le_refl _⟩, fun H locs ls k j h1 h2 hI hS hl => ?_⟩
  rw [show zh_N z - c0 = k by omega, show zh_M z - s0 = j by omega]
  exact W.lret hx hb hr (fun t ht hW => ⟨⟨rfl, hIn0.go hW (by rw [ht]; exact hI) (fun q g1 g2 => by rw [ht]; exact hS.2.1 q g1 g2)⟩, hS.F ht⟩) hS.2.2 hdg hlk
theorem zg_aret {C : String} {v : Value} (X : zg_X p s m args meth c cc nL own (some (.object C)) h0 D dA tb) (hv : v = .null ∨ ∃ a, v = .ref a) (hdg : decode cc pc = .ok (.areturn, 1)) : zg_G p l e R s m args below meth c (MQ below (zc_Q h0 D dA tb (some v) z) args s (zh_N z - c0) (zh_M z - s0) (fun q => h0 ≤ q)) h0 D dA nL c0 s0 z z pc lv [v] := by
  obtain ⟨hx, hb, -, -, -, hr, hlk, x0, hIn0⟩ := X
  refine ⟨⟨Nat.le_refl _, Nat.le_refl _⟩, fun H locs ls k j h1 h2 hI hS hl => ?_⟩
  rw [show zh_N z - c0 = k by omega, show zh_M z - s0 = j by omega]
  exact W.aret hx hb hr (Or.inl ⟨_, rfl⟩) hv (fun t ht hW => ⟨⟨rfl, hIn0.go hW (by rw [ht]; exact hI) (fun q g1 g2 => by rw [ht]; exact hS.2.1 q g1 g2)⟩, hS.F ht⟩) hS.2.2 hdg hlk
/-- the start of a call: what the callee's contract asks -/
theorem zg_pre {H : Heap} {av : List Value} (hU : ∀ U : State, U.heap = H → s.WarmedH U.vm → zh_In h0 D dA tb x U) : PreS s H (va_Pc av (fun U => zh_In h0 D dA tb x U)) av :=
  ⟨fun a U g mk q => ⟨q.1, zh_In_calling q.2⟩, fun U hh hW => ⟨rfl, hU U hh hW⟩⟩
end ZC
section ZCP
variable {p : Program} {l : Launch} {e : Env} {R : Room} {s : State} {m : MethodId} {args : Array Value} {below : List Frame} {meth : Method} {c : Code} {Q : State → Prop} {h0 : Nat} {D : va_G} {dA : Nat → ClassId} {nL c0 s0 : Nat} {z x : zh_S} {pc pc' : Nat} {lv : List (Nat × Value)} {st : List Value} {cc : ByteArray}
theorem zg_copy (hexec : p.tables.exec = Jvm.exec) (hb : c.code = cc) (hml : c.maxLocals = nL) {own : String} {index : Nat} (hown : s.vm.findClass own = some m.cls) (hlink : (Cond.methodLink own index arraycopyName).before args s = true) (hnat : (Cond.native arraycopyName).before args s = true) (hstat : (Cond.static arraycopyName).before args s = true) (hini : (Cond.initialized "java/lang/System").before args s = true)
    (hK : va_K D classes (zh_tys dA) s) {a b : Nat} {sp dp ln : Int32} (ho : zh_oc x a sp b dp ln) {y : zh_S} (hy : y = zh_cpy x a sp b dp ln) (hframes : 1 ≤ R.frames) (hlocals : (st.map fun v => v.category).sum + (nativeFrameWords "java/lang/System" "arraycopy" 5 + 11) ≤ R.locals) (hdg : decode cc pc = .ok (.invokestatic index, 3)) (hpc : pc + 3 = pc')
    (kk : zg_G p l e R s m args below meth c Q h0 D dA nL c0 s0 z y pc' lv st) : zg_G p l e R s m args below meth c Q h0 D dA nL c0 s0 z x pc lv (.int ln :: .int dp :: .ref (h0 + b) :: .int sp :: .ref (h0 + a) :: st) := by
  subst hpc; subst hy
  obtain ⟨o1, o2, o3, o4, g1, g2, g3, g4, g5⟩ := ho
  refine ⟨kk.1, fun H locs ls k' j h1 h2 hI hS hl => ?_⟩
  have hc0 : H[h0 + a]? = some (vp_cell (dA 0) ((zh_K x a).2, .inl (zh_I x a))) := by have h := hI.2 a o2; rw [zh_ia o1] at h; exact h
  have hc1 : H[h0 + b]? = some (vp_cell (dA 0) ((zh_K x b).2, .inl (zh_I x b))) := by have h := hI.2 b o4; rw [zh_ia o3] at h; exact h
  have nn : ∀ z : Int32, ¬ z < 0 → z.toInt = (z.toNatClampNeg : Int) := by
    intro z hz
    have hz0 : (0 : Int) ≤ z.toInt := by
      have := Int32.not_lt.mp hz
      simpa using Int32.le_iff_toInt_le.mp this
    show z.toInt = ((z.toInt.toNat : Nat) : Int)
    omega
  intro T hT X
  obtain ⟨-, k0, hk0, cm0, hkk0⟩ := (hK.2 0 _ rfl).1 (zh_K x a).2 (fun j => .int (zh_I x a j))
  obtain ⟨-, k1, hk1, cm1, hkk1⟩ := (hK.2 0 _ rfl).1 (zh_K x b).2 (fun j => .int (zh_I x b j))
  obtain ⟨vm', X', step⟩ := X.arraycopy hexec hown hlink hnat hstat hini (src := h0 + a) (dst := h0 + b) (cs := vp_cell (dA 0) ((zh_K x a).2, .inl (zh_I x a))) (cd := vp_cell (dA 0) ((zh_K x b).2, .inl (zh_I x b))) (srcPos := sp) (destPos := dp) (n := ln) (by rw [hT]; exact hc0) (by rw [hT]; exact hc1)
    (fun _ h => by cases h) (fun _ h => by cases h) (fun h => by cases h) (fun h => by cases h) hk0 hk1 hkk0 hkk1 (by simp [refKind]) g1 g2 g3
    (by rw [nn sp g1, nn ln g3]; show ¬ _ > ((arrV (dA 0) (zh_K x a).2 (fun j => .int (zh_I x a j))).slots.size : Int); rw [arrV_size]; omega)
    (by rw [nn dp g2, nn ln g3]; show ¬ _ > ((arrV (dA 0) (zh_K x b).2 (fun j => .int (zh_I x b j))).slots.size : Int); rw [arrV_size]; omega)
    (fun vm₁ _ i hi => by
      have e : (vp_cell (dA 0) ((zh_K x a).2, .inl (zh_I x a))).slots.getD (sp.toNatClampNeg + i) .null = .int (zh_I x a (sp.toNatClampNeg + i)) := by
        show (arrV (dA 0) (zh_K x a).2 (fun j => .int (zh_I x a j))).slots.getD _ _ = _
        rw [Array.getD_eq_getD_getElem?, arrV_read _ _ (by omega)]
        rfl
      refine ⟨?_, ?_⟩
      · rw [e]; rfl
      · rw [e]; exact trivial)
    (g := F0 m pc ls (.int ln :: .int dp :: .ref (h0 + b) :: .int sp :: .ref (h0 + a) :: st)) rfl (by rw [hml]; exact hl.1) (rest := st) rfl (by rw [hb]; exact hdg) hframes (by show 2 * 0 + _ + _ ≤ _; omega)
  have e1 : copied (vp_cell (dA 0) ((zh_K x a).2, .inl (zh_I x a))) (vp_cell (dA 0) ((zh_K x b).2, .inl (zh_I x b))) sp dp ln = vp_cell (dA 0) ((zh_K x b).2, .inl (va_cpy (zh_I x a) (zh_I x b) sp.toNatClampNeg dp.toNatClampNeg ln.toNatClampNeg)) := va_copied (fun z => .int z) (dA 0) (dA 0) (zh_I x a) (zh_I x b) g4
  rw [e1] at X' step
  have hlt : h0 + b < H.size := (Array.getElem?_eq_some_iff.mp hc1).1
  have hheap : ((T.setVm vm').setCell (h0 + b) (vp_cell (dA 0) ((zh_K x b).2, .inl (va_cpy (zh_I x a) (zh_I x b) sp.toNatClampNeg dp.toNatClampNeg ln.toNatClampNeg)))).heap = H.setIfInBounds (h0 + b) (vp_cell (dA 0) ((zh_K x b).2, .inl (va_cpy (zh_I x a) (zh_I x b) sp.toNatClampNeg dp.toNatClampNeg ln.toNatClampNeg))) := by rw [← hT]; rfl
  have oq : ∀ q : Nat, q ≠ h0 + b → (H.setIfInBounds (h0 + b) (vp_cell (dA 0) ((zh_K x b).2, .inl (va_cpy (zh_I x a) (zh_I x b) sp.toNatClampNeg dp.toNatClampNeg ln.toNatClampNeg))))[q]? = H[q]? := fun q hq => by simp [Array.getElem?_setIfInBounds, Ne.symm hq]
  have eI : zh_I (zh_cpy x a sp b dp ln) b = va_cpy (zh_I x a) (zh_I x b) sp.toNatClampNeg dp.toNatClampNeg ln.toNatClampNeg := by show va_up x.1 b _ b = _; rw [va_up_self]; rfl
  have hne : ∀ q, q ≠ b → zh_ce h0 dA (zh_cpy x a sp b dp ln) q = zh_ce h0 dA x q := fun q hq => by
    have e2 : zh_I (zh_cpy x a sp b dp ln) q = zh_I x q := by show va_up x.1 b _ q = x.1 q; rw [va_up_ne _ _ hq]
    have f : ∀ ci, zh_fv h0 (zh_cpy x a sp b dp ln) ci q = zh_fv h0 x ci q := fun ci => by
      funext j; unfold zh_fv; rw [e2]; rfl
    unfold zh_ce
    rw [e2, show zh_K (zh_cpy x a sp b dp ln) = zh_K x from rfl, show zh_J (zh_cpy x a sp b dp ln) = zh_J x from rfl, show zh_R (zh_cpy x a sp b dp ln) = zh_R x from rfl]
    simp only [f]
  have hI2 : zh_mI h0 D dA (zh_cpy x a sp b dp ln) (H.setIfInBounds (h0 + b) (vp_cell (dA 0) ((zh_K x b).2, .inl (va_cpy (zh_I x a) (zh_I x b) sp.toNatClampNeg dp.toNatClampNeg ln.toNatClampNeg)))) := by
    refine zh_set hI (by simp) oq rfl hne ?_
    rw [zh_ia (show (zh_K (zh_cpy x a sp b dp ln) b).1 = 0 from o3), eI]
    show (H.setIfInBounds (h0 + b) _)[h0 + b]? = some _
    simp [Array.getElem?_setIfInBounds, hlt]
    rfl
  obtain ⟨t, a1, b1⟩ := kk.2 _ _ ls k' j h1 h2 hI2 ⟨by simp; exact hS.1, fun q q1 q2 => by
      rw [oq q (fun e => q2 (by rw [e]; exact Nat.le_add_right h0 b))]
      exact hS.2.1 q q1 q2, fun q hq => by
      rcases List.mem_append.mp hq with h | h
      · exact hS.2.2 q h
      · obtain ⟨w, -, hw⟩ := List.mem_map.mp h
        rw [← hw]
        exact Nat.le_add_right h0 b⟩ hl _ hheap X'
  exact ⟨t, step t a1, b1⟩
end ZCP
end
