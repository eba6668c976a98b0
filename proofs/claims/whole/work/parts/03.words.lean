theorem zt_0 : (.selects zr_Tool zn_Tool_writeExtensions zn_Tool_writeExtensions : Cond) ∈ zw_T := zw_in (i := 0) (by decide +kernel) rfl
theorem zt_1 : (.selects zr_Tool zn_Tool_writeBasic zn_Tool_writeBasic : Cond) ∈ zw_T := zw_in (i := 1) (by decide +kernel) rfl
theorem zt_2 : (.selects zr_Tool zn_Tool_writeUsage zn_Tool_writeUsage : Cond) ∈ zw_T := zw_in (i := 2) (by decide +kernel) rfl
theorem zt_3 : (.selects zr_Tool zn_Tool_writeRealm zn_Tool_writeRealm : Cond) ∈ zw_T := zw_in (i := 3) (by decide +kernel) rfl
theorem zt_4 : (.selects zr_Tool zn_Tool_writeOwnExtension zn_Tool_writeOwnExtension : Cond) ∈ zw_T := zw_in (i := 4) (by decide +kernel) rfl
theorem zt_5 : (.selects zr_Tool zn_Tool_finish zn_Tool_finish : Cond) ∈ zw_T := zw_in (i := 5) (by decide +kernel) rfl
theorem zt_6 : (.selects zr_Reader zn_Reader_open zn_Reader_open : Cond) ∈ zw_T := zw_in (i := 6) (by decide +kernel) rfl
theorem zt_7 : (.selects zr_Reader zn_Reader_fail zn_Reader_fail : Cond) ∈ zw_T := zw_in (i := 7) (by decide +kernel) rfl
theorem zt_8 : (.selects zr_Reader zn_Reader_readInteger zn_Reader_readInteger : Cond) ∈ zw_T := zw_in (i := 8) (by decide +kernel) rfl
theorem zt_9 : (.selects zr_Reader zn_Reader_isInteger zn_Reader_isInteger : Cond) ∈ zw_T := zw_in (i := 9) (by decide +kernel) rfl
theorem zt_10 : (.selects zr_Reader zn_Reader_readName zn_Reader_readName : Cond) ∈ zw_T := zw_in (i := 10) (by decide +kernel) rfl
theorem zt_11 : (.selects zr_Reader zn_Reader_isNext zn_Reader_isNext : Cond) ∈ zw_T := zw_in (i := 11) (by decide +kernel) rfl
theorem zt_12 : (.selects zr_Reader zn_Reader_readExtensions zn_Reader_readExtensions : Cond) ∈ zw_T := zw_in (i := 12) (by decide +kernel) rfl
theorem zt_13 : (.selects zr_Reader zn_Reader_readExtension zn_Reader_readExtension : Cond) ∈ zw_T := zw_in (i := 13) (by decide +kernel) rfl
theorem zt_14 : (.selects zr_Reader zn_Reader_readFlag zn_Reader_readFlag : Cond) ∈ zw_T := zw_in (i := 14) (by decide +kernel) rfl
theorem zt_15 : (.selects zr_Reader zn_Reader_readBasic zn_Reader_readBasic : Cond) ∈ zw_T := zw_in (i := 15) (by decide +kernel) rfl
theorem zt_16 : (.selects zr_Reader zn_Reader_close zn_Reader_close : Cond) ∈ zw_T := zw_in (i := 16) (by decide +kernel) rfl
theorem zt_17 : (.selects zr_Reader zn_Reader_readUsage zn_Reader_readUsage : Cond) ∈ zw_T := zw_in (i := 17) (by decide +kernel) rfl
theorem zt_18 : (.selects zr_Reader zn_Reader_readRealm zn_Reader_readRealm : Cond) ∈ zw_T := zw_in (i := 18) (by decide +kernel) rfl
theorem zt_19 : (.selects zr_Reader zn_Reader_skipOpaque zn_Reader_skipOpaque : Cond) ∈ zw_T := zw_in (i := 19) (by decide +kernel) rfl
theorem zt_20 : (.selects zr_Reader zn_Reader_readSignature zn_Reader_readSignature : Cond) ∈ zw_T := zw_in (i := 20) (by decide +kernel) rfl
theorem zt_21 : (.selects zr_Search zn_Search_goOn zn_Search_goOn : Cond) ∈ zw_T := zw_in (i := 21) (by decide +kernel) rfl
theorem zt_22 : (.selects zr_Search zn_Search_inPart zn_Search_inPart : Cond) ∈ zw_T := zw_in (i := 22) (by decide +kernel) rfl
theorem zt_23 : (.selects zr_Search zn_Search_tryCandidate zn_Search_tryCandidate : Cond) ∈ zw_T := zw_in (i := 23) (by decide +kernel) rfl
theorem zt_24 : (.selects zr_Search zn_Search_reasonAgainst zn_Search_reasonAgainst : Cond) ∈ zw_T := zw_in (i := 24) (by decide +kernel) rfl
theorem zt_25 : (.selects zr_Search zn_Search_takeList zn_Search_takeList : Cond) ∈ zw_T := zw_in (i := 25) (by decide +kernel) rfl
theorem zt_26 : (.selects zr_Search zn_Search_isInRealms zn_Search_isInRealms : Cond) ∈ zw_T := zw_in (i := 26) (by decide +kernel) rfl
theorem zt_27 : (.selects zr_Search zn_Search_countBefore zn_Search_countBefore : Cond) ∈ zw_T := zw_in (i := 27) (by decide +kernel) rfl
theorem zt_28 : (.selects zr_Search zn_Search_goThrough zn_Search_goThrough : Cond) ∈ zw_T := zw_in (i := 28) (by decide +kernel) rfl
theorem zt_29 : (.selects zr_Search zn_Search_isInPart zn_Search_isInPart : Cond) ∈ zw_T := zw_in (i := 29) (by decide +kernel) rfl
theorem zt_30 : (.selects zr_M zn_M_integer zn_M_integer : Cond) ∈ zw_T := zw_in (i := 30) (by decide +kernel) rfl
theorem zt_31 : (.selects zr_M zn_M_add zn_M_add : Cond) ∈ zw_T := zw_in (i := 31) (by decide +kernel) rfl
theorem zt_32 : (.selects zr_M zn_M_name zn_M_name : Cond) ∈ zw_T := zw_in (i := 32) (by decide +kernel) rfl
theorem zt_33 : (.selects zr_M zn_M_extensions zn_M_extensions : Cond) ∈ zw_T := zw_in (i := 33) (by decide +kernel) rfl
theorem zt_34 : (.selects zr_M zn_M_open zn_M_open : Cond) ∈ zw_T := zw_in (i := 34) (by decide +kernel) rfl
theorem zt_35 : (.selects zr_M zn_M_yes zn_M_yes : Cond) ∈ zw_T := zw_in (i := 35) (by decide +kernel) rfl
theorem zt_36 : (.selects zr_M zn_M_wrap zn_M_wrap : Cond) ∈ zw_T := zw_in (i := 36) (by decide +kernel) rfl
theorem zt_37 : (.selects zr_M zn_M_signed zn_M_signed : Cond) ∈ zw_T := zw_in (i := 37) (by decide +kernel) rfl
theorem zt_38 : (.selects zr_M zn_M_hash zn_M_hash : Cond) ∈ zw_T := zw_in (i := 38) (by decide +kernel) rfl
theorem zt_39 : (.selects zr_M zn_M_readCertificate zn_M_readCertificate : Cond) ∈ zw_T := zw_in (i := 39) (by decide +kernel) rfl
theorem zt_40 : (.selects zr_M zn_M_head zn_M_head : Cond) ∈ zw_T := zw_in (i := 40) (by decide +kernel) rfl
theorem zt_41 : (.selects zr_M zn_M_fails zn_M_fails : Cond) ∈ zw_T := zw_in (i := 41) (by decide +kernel) rfl
theorem zt_42 : (.selects zr_M zn_M_number zn_M_number : Cond) ∈ zw_T := zw_in (i := 42) (by decide +kernel) rfl
theorem zt_43 : (.selects zr_M zn_M_title zn_M_title : Cond) ∈ zw_T := zw_in (i := 43) (by decide +kernel) rfl
theorem zt_44 : (.selects zr_M zn_M_next zn_M_next : Cond) ∈ zw_T := zw_in (i := 44) (by decide +kernel) rfl
theorem zt_45 : (.selects zr_M zn_M_extension zn_M_extension : Cond) ∈ zw_T := zw_in (i := 45) (by decide +kernel) rfl
theorem zt_46 : (.selects zr_M zn_M_truth zn_M_truth : Cond) ∈ zw_T := zw_in (i := 46) (by decide +kernel) rfl
theorem zt_47 : (.selects zr_M zn_M_basic zn_M_basic : Cond) ∈ zw_T := zw_in (i := 47) (by decide +kernel) rfl
theorem zt_48 : (.selects zr_M zn_M_done zn_M_done : Cond) ∈ zw_T := zw_in (i := 48) (by decide +kernel) rfl
theorem zt_49 : (.selects zr_M zn_M_realm zn_M_realm : Cond) ∈ zw_T := zw_in (i := 49) (by decide +kernel) rfl
theorem zt_50 : (.selects zr_M zn_M_readList zn_M_readList : Cond) ∈ zw_T := zw_in (i := 50) (by decide +kernel) rfl
theorem zt_51 : (.selects zr_M zn_M_storeList zn_M_storeList : Cond) ∈ zw_T := zw_in (i := 51) (by decide +kernel) rfl
theorem zt_52 : (.selects zr_M zn_M_of zn_M_of : Cond) ∈ zw_T := zw_in (i := 52) (by decide +kernel) rfl
theorem zt_53 : (.selects zr_M zn_M_search zn_M_search : Cond) ∈ zw_T := zw_in (i := 53) (by decide +kernel) rfl
theorem zt_54 : (.selects zr_M zn_M_flag zn_M_flag : Cond) ∈ zw_T := zw_in (i := 54) (by decide +kernel) rfl
theorem zt_55 : (.selects zr_M zn_M_holds zn_M_holds : Cond) ∈ zw_T := zw_in (i := 55) (by decide +kernel) rfl
theorem zt_56 : (.selects zr_M zn_M_against zn_M_against : Cond) ∈ zw_T := zw_in (i := 56) (by decide +kernel) rfl
theorem zt_57 : (.selects zr_M zn_M_signedBy zn_M_signedBy : Cond) ∈ zw_T := zw_in (i := 57) (by decide +kernel) rfl
theorem zt_58 : (.selects zr_M zn_M_listFor zn_M_listFor : Cond) ∈ zw_T := zw_in (i := 58) (by decide +kernel) rfl
theorem zt_59 : (.selects zr_M zn_M_isRevoked zn_M_isRevoked : Cond) ∈ zw_T := zw_in (i := 59) (by decide +kernel) rfl
theorem zt_60 : (.selects zr_M zn_M_keptOut zn_M_keptOut : Cond) ∈ zw_T := zw_in (i := 60) (by decide +kernel) rfl
theorem zt_61 : (.selects zr_M zn_M_between zn_M_between : Cond) ∈ zw_T := zw_in (i := 61) (by decide +kernel) rfl
theorem zt_62 : (.selects zr_M zn_M_suits zn_M_suits : Cond) ∈ zw_T := zw_in (i := 62) (by decide +kernel) rfl
theorem zt_64 : (.initialized zr_V : Cond) ∈ zw_T := zw_in (i := 64) (by decide +kernel) rfl
theorem zt_65 : (.initialized zr_Draft : Cond) ∈ zw_T := zw_in (i := 65) (by decide +kernel) rfl
theorem zt_66 : (.initialized zr_Tool : Cond) ∈ zw_T := zw_in (i := 66) (by decide +kernel) rfl
theorem zt_67 : (.initialized zr_Shelf : Cond) ∈ zw_T := zw_in (i := 67) (by decide +kernel) rfl
theorem zt_68 : (.initialized zr_Signed : Cond) ∈ zw_T := zw_in (i := 68) (by decide +kernel) rfl
theorem zt_69 : (.initialized zr_Certificate : Cond) ∈ zw_T := zw_in (i := 69) (by decide +kernel) rfl
theorem zt_70 : (.initialized zr_RevokedList : Cond) ∈ zw_T := zw_in (i := 70) (by decide +kernel) rfl
theorem zt_71 : (.initialized zr_M : Cond) ∈ zw_T := zw_in (i := 71) (by decide +kernel) rfl
theorem zt_72 : (.initialized zr_Names : Cond) ∈ zw_T := zw_in (i := 72) (by decide +kernel) rfl
theorem zt_73 : (.initialized zr_Numbers : Cond) ∈ zw_T := zw_in (i := 73) (by decide +kernel) rfl
theorem zt_74 : (.initialized "java/lang/System" : Cond) ∈ zw_T := zw_in (i := 74) (by decide +kernel) rfl
theorem zt_75 : (.initialized zr_Reader : Cond) ∈ zw_T := zw_in (i := 75) (by decide +kernel) rfl
theorem zt_76 : (.initialized zr_Search : Cond) ∈ zw_T := zw_in (i := 76) (by decide +kernel) rfl
theorem zt_77 : (.classLink zr_L 7 zr_V : Cond) ∈ zw_T := zw_in (i := 77) (by decide +kernel) rfl
theorem zt_78 : (.instantiable zr_V 4 : Cond) ∈ zw_T := zw_in (i := 78) (by decide +kernel) rfl
theorem zt_79 : (.methodLink zr_L 9 zn_V_init : Cond) ∈ zw_T := zw_in (i := 79) (by decide +kernel) rfl
theorem zt_80 : (.instanceMethod zn_V_init : Cond) ∈ zw_T := zw_in (i := 80) (by decide +kernel) rfl
theorem zt_81 : (.code zn_V_init ze_V_init 1 none : Cond) ∈ zw_T := zw_in (i := 81) (by decide +kernel) rfl
theorem zt_82 : (.methodLink zr_V 1 objectInit : Cond) ∈ zw_T := zw_in (i := 82) (by decide +kernel) rfl
theorem zt_83 : (.instanceMethod objectInit : Cond) ∈ zw_T := zw_in (i := 83) (by decide +kernel) rfl
theorem zt_84 : (.code objectInit ⟨#[0xb1]⟩ 1 none : Cond) ∈ zw_T := zw_in (i := 84) (by decide +kernel) rfl
theorem zt_85 : (.classLink zr_V 7 zr_Draft : Cond) ∈ zw_T := zw_in (i := 85) (by decide +kernel) rfl
theorem zt_86 : (.instantiable zr_Draft 2 : Cond) ∈ zw_T := zw_in (i := 86) (by decide +kernel) rfl
theorem zt_88 : (.instanceMethod zn_Draft_init : Cond) ∈ zw_T := zw_in (i := 88) (by decide +kernel) rfl
theorem zt_89 : (.code zn_Draft_init ze_Draft_init 1 none : Cond) ∈ zw_T := zw_in (i := 89) (by decide +kernel) rfl
theorem zt_90 : (.methodLink zr_Draft 3 objectInit : Cond) ∈ zw_T := zw_in (i := 90) (by decide +kernel) rfl
theorem zt_91 : (.fieldLink zr_Draft 11 "CertificateVault$Draft" "bytes" "[I" : Cond) ∈ zw_T := zw_in (i := 91) (by decide +kernel) rfl
theorem zt_92 : (.fieldLink zr_V 52 "CertificateVault$Draft" "bytes" "[I" : Cond) ∈ zw_T := zw_in (i := 92) (by decide +kernel) rfl
theorem zt_93 : (.fieldLink zr_Reader 166 "CertificateVault$Draft" "bytes" "[I" : Cond) ∈ zw_T := zw_in (i := 93) (by decide +kernel) rfl
theorem zt_94 : (.fieldLink zr_Draft 15 "CertificateVault$Draft" "size" "I" : Cond) ∈ zw_T := zw_in (i := 94) (by decide +kernel) rfl
theorem zt_95 : (.fieldLink zr_Reader 27 "CertificateVault$Draft" "size" "I" : Cond) ∈ zw_T := zw_in (i := 95) (by decide +kernel) rfl
theorem zt_96 : (.fieldLink zr_V 45 "CertificateVault$Draft" "size" "I" : Cond) ∈ zw_T := zw_in (i := 96) (by decide +kernel) rfl
theorem zt_97 : (.fieldLink zr_Tool 77 "CertificateVault$Draft" "size" "I" : Cond) ∈ zw_T := zw_in (i := 97) (by decide +kernel) rfl
theorem zt_103 : (.arrayClass .int : Cond) ∈ zw_T := zw_in (i := 103) (by decide +kernel) rfl
theorem zt_104 : (.classLink zr_V 16 zr_Tool : Cond) ∈ zw_T := zw_in (i := 104) (by decide +kernel) rfl
theorem zt_105 : (.instantiable zr_Tool 4 : Cond) ∈ zw_T := zw_in (i := 105) (by decide +kernel) rfl
theorem zt_107 : (.instanceMethod zn_Tool_init : Cond) ∈ zw_T := zw_in (i := 107) (by decide +kernel) rfl
theorem zt_108 : (.code zn_Tool_init ze_Tool_init 1 none : Cond) ∈ zw_T := zw_in (i := 108) (by decide +kernel) rfl
theorem zt_109 : (.methodLink zr_Tool 3 objectInit : Cond) ∈ zw_T := zw_in (i := 109) (by decide +kernel) rfl
theorem zt_110 : (.constantLong zr_Tool 9 (1000) : Cond) ∈ zw_T := zw_in (i := 110) (by decide +kernel) rfl
theorem zt_111 : (.constantLong zr_Tool 11 (-1) : Cond) ∈ zw_T := zw_in (i := 111) (by decide +kernel) rfl
theorem zt_112 : (.fieldLink zr_Tool 13 "CertificateVault$Tool" "fields" "[J" : Cond) ∈ zw_T := zw_in (i := 112) (by decide +kernel) rfl
theorem zt_113 : (.fieldLink zr_Tool 19 "CertificateVault$Tool" "serials" "[J" : Cond) ∈ zw_T := zw_in (i := 113) (by decide +kernel) rfl
theorem zt_114 : (.fieldLink zr_Tool 22 "CertificateVault$Tool" "dates" "[J" : Cond) ∈ zw_T := zw_in (i := 114) (by decide +kernel) rfl
theorem zt_115 : (.fieldLink zr_Tool 25 "CertificateVault$Tool" "revoked" "I" : Cond) ∈ zw_T := zw_in (i := 115) (by decide +kernel) rfl
theorem zt_125 : (.arrayClass .long : Cond) ∈ zw_T := zw_in (i := 125) (by decide +kernel) rfl
theorem zt_126 : (.classLink zr_V 23 zr_Shelf : Cond) ∈ zw_T := zw_in (i := 126) (by decide +kernel) rfl
theorem zt_127 : (.instantiable zr_Shelf 4 : Cond) ∈ zw_T := zw_in (i := 127) (by decide +kernel) rfl
theorem zt_128 : (.methodLink zr_V 25 zn_Shelf_init : Cond) ∈ zw_T := zw_in (i := 128) (by decide +kernel) rfl
theorem zt_129 : (.instanceMethod zn_Shelf_init : Cond) ∈ zw_T := zw_in (i := 129) (by decide +kernel) rfl
theorem zt_130 : (.code zn_Shelf_init ze_Shelf_init 2 none : Cond) ∈ zw_T := zw_in (i := 130) (by decide +kernel) rfl
theorem zt_131 : (.methodLink zr_Shelf 3 objectInit : Cond) ∈ zw_T := zw_in (i := 131) (by decide +kernel) rfl
theorem zt_132 : (.classLink zr_Shelf 9 zr_Certificate : Cond) ∈ zw_T := zw_in (i := 132) (by decide +kernel) rfl
theorem zt_134 : (.classLink zr_Shelf 17 zr_RevokedList : Cond) ∈ zw_T := zw_in (i := 134) (by decide +kernel) rfl
theorem zt_136 : (.instantiable zr_Certificate 19 : Cond) ∈ zw_T := zw_in (i := 136) (by decide +kernel) rfl
theorem zt_138 : (.instanceMethod zn_Certificate_init : Cond) ∈ zw_T := zw_in (i := 138) (by decide +kernel) rfl
theorem zt_139 : (.code zn_Certificate_init ze_Certificate_init 1 none : Cond) ∈ zw_T := zw_in (i := 139) (by decide +kernel) rfl
theorem zt_141 : (.instanceMethod zn_Signed_init : Cond) ∈ zw_T := zw_in (i := 141) (by decide +kernel) rfl
theorem zt_142 : (.code zn_Signed_init ze_Signed_init 1 none : Cond) ∈ zw_T := zw_in (i := 142) (by decide +kernel) rfl
theorem zt_143 : (.methodLink zr_Signed 1 objectInit : Cond) ∈ zw_T := zw_in (i := 143) (by decide +kernel) rfl
theorem zt_144 : (.fieldLink zr_Reader 40 "CertificateVault$Certificate" "serial" "J" : Cond) ∈ zw_T := zw_in (i := 144) (by decide +kernel) rfl
theorem zt_145 : (.fieldLink zr_Certificate 46 "CertificateVault$Certificate" "serial" "J" : Cond) ∈ zw_T := zw_in (i := 145) (by decide +kernel) rfl
theorem zt_146 : (.fieldLink zr_Search 94 "CertificateVault$Certificate" "serial" "J" : Cond) ∈ zw_T := zw_in (i := 146) (by decide +kernel) rfl
theorem zt_147 : (.fieldLink zr_Reader 57 "CertificateVault$Certificate" "subject" "J" : Cond) ∈ zw_T := zw_in (i := 147) (by decide +kernel) rfl
theorem zt_148 : (.fieldLink zr_Certificate 43 "CertificateVault$Certificate" "subject" "J" : Cond) ∈ zw_T := zw_in (i := 148) (by decide +kernel) rfl
theorem zt_149 : (.fieldLink zr_Signed 23 "CertificateVault$Certificate" "subject" "J" : Cond) ∈ zw_T := zw_in (i := 149) (by decide +kernel) rfl
theorem zt_150 : (.fieldLink zr_Search 72 "CertificateVault$Certificate" "subject" "J" : Cond) ∈ zw_T := zw_in (i := 150) (by decide +kernel) rfl
theorem zt_151 : (.fieldLink zr_Reader 60 "CertificateVault$Certificate" "modulus" "J" : Cond) ∈ zw_T := zw_in (i := 151) (by decide +kernel) rfl
theorem zt_152 : (.fieldLink zr_Signed 31 "CertificateVault$Certificate" "modulus" "J" : Cond) ∈ zw_T := zw_in (i := 152) (by decide +kernel) rfl
theorem zt_153 : (.fieldLink zr_Certificate 55 "CertificateVault$Certificate" "modulus" "J" : Cond) ∈ zw_T := zw_in (i := 153) (by decide +kernel) rfl
theorem zt_154 : (.fieldLink zr_Reader 63 "CertificateVault$Certificate" "exponent" "J" : Cond) ∈ zw_T := zw_in (i := 154) (by decide +kernel) rfl
theorem zt_155 : (.fieldLink zr_Signed 34 "CertificateVault$Certificate" "exponent" "J" : Cond) ∈ zw_T := zw_in (i := 155) (by decide +kernel) rfl
theorem zt_156 : (.fieldLink zr_Certificate 58 "CertificateVault$Certificate" "exponent" "J" : Cond) ∈ zw_T := zw_in (i := 156) (by decide +kernel) rfl
theorem zt_157 : (.fieldLink zr_Certificate 11 "CertificateVault$Certificate" "reach" "J" : Cond) ∈ zw_T := zw_in (i := 157) (by decide +kernel) rfl
theorem zt_158 : (.fieldLink zr_Reader 149 "CertificateVault$Certificate" "reach" "J" : Cond) ∈ zw_T := zw_in (i := 158) (by decide +kernel) rfl
theorem zt_159 : (.fieldLink zr_Search 112 "CertificateVault$Certificate" "reach" "J" : Cond) ∈ zw_T := zw_in (i := 159) (by decide +kernel) rfl
theorem zt_160 : (.fieldLink zr_Certificate 17 "CertificateVault$Certificate" "usage" "J" : Cond) ∈ zw_T := zw_in (i := 160) (by decide +kernel) rfl
theorem zt_161 : (.fieldLink zr_Reader 154 "CertificateVault$Certificate" "usage" "J" : Cond) ∈ zw_T := zw_in (i := 161) (by decide +kernel) rfl
theorem zt_162 : (.fieldLink zr_Certificate 20 "CertificateVault$Certificate" "allowed" "J" : Cond) ∈ zw_T := zw_in (i := 162) (by decide +kernel) rfl
theorem zt_163 : (.fieldLink zr_Reader 157 "CertificateVault$Certificate" "allowed" "J" : Cond) ∈ zw_T := zw_in (i := 163) (by decide +kernel) rfl
theorem zt_164 : (.fieldLink zr_Search 137 "CertificateVault$Certificate" "allowed" "J" : Cond) ∈ zw_T := zw_in (i := 164) (by decide +kernel) rfl
theorem zt_165 : (.fieldLink zr_Certificate 23 "CertificateVault$Certificate" "barred" "J" : Cond) ∈ zw_T := zw_in (i := 165) (by decide +kernel) rfl
theorem zt_166 : (.fieldLink zr_Reader 160 "CertificateVault$Certificate" "barred" "J" : Cond) ∈ zw_T := zw_in (i := 166) (by decide +kernel) rfl
theorem zt_167 : (.fieldLink zr_Search 145 "CertificateVault$Certificate" "barred" "J" : Cond) ∈ zw_T := zw_in (i := 167) (by decide +kernel) rfl
theorem zt_168 : (.fieldLink zr_Certificate 26 "CertificateVault$Certificate" "extensions" "I" : Cond) ∈ zw_T := zw_in (i := 168) (by decide +kernel) rfl
theorem zt_169 : (.fieldLink zr_Reader 140 "CertificateVault$Certificate" "extensions" "I" : Cond) ∈ zw_T := zw_in (i := 169) (by decide +kernel) rfl
theorem zt_170 : (.fieldLink zr_Certificate 30 "CertificateVault$Certificate" "basic" "Z" : Cond) ∈ zw_T := zw_in (i := 170) (by decide +kernel) rfl
theorem zt_171 : (.fieldLink zr_Reader 143 "CertificateVault$Certificate" "basic" "Z" : Cond) ∈ zw_T := zw_in (i := 171) (by decide +kernel) rfl
theorem zt_172 : (.fieldLink zr_Certificate 34 "CertificateVault$Certificate" "authority" "Z" : Cond) ∈ zw_T := zw_in (i := 172) (by decide +kernel) rfl
theorem zt_173 : (.fieldLink zr_Reader 146 "CertificateVault$Certificate" "authority" "Z" : Cond) ∈ zw_T := zw_in (i := 173) (by decide +kernel) rfl
theorem zt_174 : (.fieldLink zr_Search 109 "CertificateVault$Certificate" "authority" "Z" : Cond) ∈ zw_T := zw_in (i := 174) (by decide +kernel) rfl
theorem zt_175 : (.fieldLink zr_Certificate 37 "CertificateVault$Certificate" "strange" "Z" : Cond) ∈ zw_T := zw_in (i := 175) (by decide +kernel) rfl
theorem zt_176 : (.fieldLink zr_Reader 136 "CertificateVault$Certificate" "strange" "Z" : Cond) ∈ zw_T := zw_in (i := 176) (by decide +kernel) rfl
theorem zt_177 : (.fieldLink zr_Search 106 "CertificateVault$Certificate" "strange" "Z" : Cond) ∈ zw_T := zw_in (i := 177) (by decide +kernel) rfl
theorem zt_178 : (.fieldLink zr_Search 48 "CertificateVault$Certificate" "anchor" "Z" : Cond) ∈ zw_T := zw_in (i := 178) (by decide +kernel) rfl
theorem zt_179 : (.fieldLink zr_Shelf 32 "CertificateVault$Certificate" "anchor" "Z" : Cond) ∈ zw_T := zw_in (i := 179) (by decide +kernel) rfl
theorem zt_180 : (.fieldLink zr_Certificate 67 "CertificateVault$Certificate" "anchor" "Z" : Cond) ∈ zw_T := zw_in (i := 180) (by decide +kernel) rfl
theorem zt_181 : (.fieldLink zr_Reader 48 "CertificateVault$Certificate" "issuer" "J" : Cond) ∈ zw_T := zw_in (i := 181) (by decide +kernel) rfl
theorem zt_182 : (.sameField "CertificateVault$Certificate" "CertificateVault$Signed" "issuer" "J" : Cond) ∈ zw_T := zw_in (i := 182) (by decide +kernel) rfl
theorem zt_183 : (.fieldLink zr_Certificate 40 "CertificateVault$Certificate" "issuer" "J" : Cond) ∈ zw_T := zw_in (i := 183) (by decide +kernel) rfl
theorem zt_184 : (.fieldLink zr_RevokedList 22 "CertificateVault$RevokedList" "issuer" "J" : Cond) ∈ zw_T := zw_in (i := 184) (by decide +kernel) rfl
theorem zt_185 : (.sameField "CertificateVault$RevokedList" "CertificateVault$Signed" "issuer" "J" : Cond) ∈ zw_T := zw_in (i := 185) (by decide +kernel) rfl
theorem zt_186 : (.fieldLink zr_Reader 87 "CertificateVault$RevokedList" "issuer" "J" : Cond) ∈ zw_T := zw_in (i := 186) (by decide +kernel) rfl
theorem zt_187 : (.fieldLink zr_Signed 20 "CertificateVault$Signed" "issuer" "J" : Cond) ∈ zw_T := zw_in (i := 187) (by decide +kernel) rfl
theorem zt_188 : (.fieldLink zr_Search 60 "CertificateVault$Certificate" "issuer" "J" : Cond) ∈ zw_T := zw_in (i := 188) (by decide +kernel) rfl
theorem zt_189 : (.fieldLink zr_Search 131 "CertificateVault$RevokedList" "issuer" "J" : Cond) ∈ zw_T := zw_in (i := 189) (by decide +kernel) rfl
theorem zt_190 : (.fieldLink zr_Signed 13 "CertificateVault$Signed" "from" "J" : Cond) ∈ zw_T := zw_in (i := 190) (by decide +kernel) rfl
theorem zt_191 : (.fieldLink zr_Reader 51 "CertificateVault$Certificate" "from" "J" : Cond) ∈ zw_T := zw_in (i := 191) (by decide +kernel) rfl
theorem zt_192 : (.sameField "CertificateVault$Certificate" "CertificateVault$Signed" "from" "J" : Cond) ∈ zw_T := zw_in (i := 192) (by decide +kernel) rfl
theorem zt_193 : (.fieldLink zr_RevokedList 26 "CertificateVault$RevokedList" "from" "J" : Cond) ∈ zw_T := zw_in (i := 193) (by decide +kernel) rfl
theorem zt_194 : (.sameField "CertificateVault$RevokedList" "CertificateVault$Signed" "from" "J" : Cond) ∈ zw_T := zw_in (i := 194) (by decide +kernel) rfl
theorem zt_195 : (.fieldLink zr_Reader 88 "CertificateVault$RevokedList" "from" "J" : Cond) ∈ zw_T := zw_in (i := 195) (by decide +kernel) rfl
theorem zt_196 : (.fieldLink zr_Certificate 49 "CertificateVault$Certificate" "from" "J" : Cond) ∈ zw_T := zw_in (i := 196) (by decide +kernel) rfl
theorem zt_197 : (.fieldLink zr_Search 134 "CertificateVault$RevokedList" "from" "J" : Cond) ∈ zw_T := zw_in (i := 197) (by decide +kernel) rfl
theorem zt_198 : (.fieldLink zr_Signed 17 "CertificateVault$Signed" "to" "J" : Cond) ∈ zw_T := zw_in (i := 198) (by decide +kernel) rfl
theorem zt_199 : (.fieldLink zr_Reader 54 "CertificateVault$Certificate" "to" "J" : Cond) ∈ zw_T := zw_in (i := 199) (by decide +kernel) rfl
theorem zt_200 : (.sameField "CertificateVault$Certificate" "CertificateVault$Signed" "to" "J" : Cond) ∈ zw_T := zw_in (i := 200) (by decide +kernel) rfl
theorem zt_201 : (.fieldLink zr_RevokedList 29 "CertificateVault$RevokedList" "to" "J" : Cond) ∈ zw_T := zw_in (i := 201) (by decide +kernel) rfl
theorem zt_202 : (.sameField "CertificateVault$RevokedList" "CertificateVault$Signed" "to" "J" : Cond) ∈ zw_T := zw_in (i := 202) (by decide +kernel) rfl
theorem zt_203 : (.fieldLink zr_Reader 89 "CertificateVault$RevokedList" "to" "J" : Cond) ∈ zw_T := zw_in (i := 203) (by decide +kernel) rfl
theorem zt_204 : (.fieldLink zr_Certificate 52 "CertificateVault$Certificate" "to" "J" : Cond) ∈ zw_T := zw_in (i := 204) (by decide +kernel) rfl
theorem zt_205 : (.fieldLink zr_RevokedList 32 "CertificateVault$RevokedList" "signature" "J" : Cond) ∈ zw_T := zw_in (i := 205) (by decide +kernel) rfl
theorem zt_206 : (.sameField "CertificateVault$RevokedList" "CertificateVault$Signed" "signature" "J" : Cond) ∈ zw_T := zw_in (i := 206) (by decide +kernel) rfl
theorem zt_207 : (.fieldLink zr_Signed 28 "CertificateVault$Signed" "signature" "J" : Cond) ∈ zw_T := zw_in (i := 207) (by decide +kernel) rfl
theorem zt_208 : (.fieldLink zr_Reader 104 "CertificateVault$Signed" "signature" "J" : Cond) ∈ zw_T := zw_in (i := 208) (by decide +kernel) rfl
theorem zt_209 : (.fieldLink zr_Certificate 61 "CertificateVault$Certificate" "signature" "J" : Cond) ∈ zw_T := zw_in (i := 209) (by decide +kernel) rfl
theorem zt_210 : (.sameField "CertificateVault$Certificate" "CertificateVault$Signed" "signature" "J" : Cond) ∈ zw_T := zw_in (i := 210) (by decide +kernel) rfl
theorem zt_211 : (.fieldLink zr_RevokedList 35 "CertificateVault$RevokedList" "hash" "I" : Cond) ∈ zw_T := zw_in (i := 211) (by decide +kernel) rfl
theorem zt_212 : (.sameField "CertificateVault$RevokedList" "CertificateVault$Signed" "hash" "I" : Cond) ∈ zw_T := zw_in (i := 212) (by decide +kernel) rfl
theorem zt_213 : (.fieldLink zr_Reader 100 "CertificateVault$Signed" "hash" "I" : Cond) ∈ zw_T := zw_in (i := 213) (by decide +kernel) rfl
theorem zt_214 : (.fieldLink zr_Signed 37 "CertificateVault$Signed" "hash" "I" : Cond) ∈ zw_T := zw_in (i := 214) (by decide +kernel) rfl
theorem zt_215 : (.fieldLink zr_Certificate 64 "CertificateVault$Certificate" "hash" "I" : Cond) ∈ zw_T := zw_in (i := 215) (by decide +kernel) rfl
theorem zt_216 : (.sameField "CertificateVault$Certificate" "CertificateVault$Signed" "hash" "I" : Cond) ∈ zw_T := zw_in (i := 216) (by decide +kernel) rfl
theorem zt_217 : (.fieldLink zr_Signed 7 "CertificateVault$Signed" "signers" "I" : Cond) ∈ zw_T := zw_in (i := 217) (by decide +kernel) rfl
theorem zt_257 : (.instantiable zr_RevokedList 9 : Cond) ∈ zw_T := zw_in (i := 257) (by decide +kernel) rfl
theorem zt_259 : (.instanceMethod zn_RevokedList_init : Cond) ∈ zw_T := zw_in (i := 259) (by decide +kernel) rfl
theorem zt_260 : (.code zn_RevokedList_init ze_RevokedList_init 1 none : Cond) ∈ zw_T := zw_in (i := 260) (by decide +kernel) rfl
theorem zt_262 : (.fieldLink zr_RevokedList 9 "CertificateVault$RevokedList" "serials" "[J" : Cond) ∈ zw_T := zw_in (i := 262) (by decide +kernel) rfl
theorem zt_263 : (.fieldLink zr_Reader 90 "CertificateVault$RevokedList" "serials" "[J" : Cond) ∈ zw_T := zw_in (i := 263) (by decide +kernel) rfl
theorem zt_264 : (.fieldLink zr_RevokedList 15 "CertificateVault$RevokedList" "dates" "[J" : Cond) ∈ zw_T := zw_in (i := 264) (by decide +kernel) rfl
theorem zt_265 : (.fieldLink zr_Reader 94 "CertificateVault$RevokedList" "dates" "[J" : Cond) ∈ zw_T := zw_in (i := 265) (by decide +kernel) rfl
theorem zt_266 : (.fieldLink zr_RevokedList 18 "CertificateVault$RevokedList" "count" "I" : Cond) ∈ zw_T := zw_in (i := 266) (by decide +kernel) rfl
theorem zt_267 : (.fieldLink zr_Reader 82 "CertificateVault$RevokedList" "count" "I" : Cond) ∈ zw_T := zw_in (i := 267) (by decide +kernel) rfl
theorem zt_281 : (.fieldLink zr_Shelf 11 "CertificateVault$Shelf" "certificates" "[LCertificateVault$Certificate;" : Cond) ∈ zw_T := zw_in (i := 281) (by decide +kernel) rfl
theorem zt_282 : (.fieldLink zr_Search 68 "CertificateVault$Shelf" "certificates" "[LCertificateVault$Certificate;" : Cond) ∈ zw_T := zw_in (i := 282) (by decide +kernel) rfl
theorem zt_283 : (.fieldLink zr_V 112 "CertificateVault$Shelf" "certificates" "[LCertificateVault$Certificate;" : Cond) ∈ zw_T := zw_in (i := 283) (by decide +kernel) rfl
theorem zt_284 : (.fieldLink zr_Shelf 19 "CertificateVault$Shelf" "lists" "[LCertificateVault$RevokedList;" : Cond) ∈ zw_T := zw_in (i := 284) (by decide +kernel) rfl
theorem zt_285 : (.fieldLink zr_Search 127 "CertificateVault$Shelf" "lists" "[LCertificateVault$RevokedList;" : Cond) ∈ zw_T := zw_in (i := 285) (by decide +kernel) rfl
theorem zt_286 : (.fieldLink zr_V 124 "CertificateVault$Shelf" "lists" "[LCertificateVault$RevokedList;" : Cond) ∈ zw_T := zw_in (i := 286) (by decide +kernel) rfl
theorem zt_287 : (.fieldLink zr_Shelf 23 "CertificateVault$Shelf" "certificateCount" "I" : Cond) ∈ zw_T := zw_in (i := 287) (by decide +kernel) rfl
theorem zt_288 : (.fieldLink zr_Search 63 "CertificateVault$Shelf" "certificateCount" "I" : Cond) ∈ zw_T := zw_in (i := 288) (by decide +kernel) rfl
theorem zt_289 : (.fieldLink zr_V 102 "CertificateVault$Shelf" "certificateCount" "I" : Cond) ∈ zw_T := zw_in (i := 289) (by decide +kernel) rfl
theorem zt_290 : (.fieldLink zr_Shelf 27 "CertificateVault$Shelf" "listCount" "I" : Cond) ∈ zw_T := zw_in (i := 290) (by decide +kernel) rfl
theorem zt_291 : (.fieldLink zr_Search 124 "CertificateVault$Shelf" "listCount" "I" : Cond) ∈ zw_T := zw_in (i := 291) (by decide +kernel) rfl
theorem zt_292 : (.fieldLink zr_V 95 "CertificateVault$Shelf" "listCount" "I" : Cond) ∈ zw_T := zw_in (i := 292) (by decide +kernel) rfl
theorem zt_302 : (.fieldLink zr_V 10 "CertificateVault" "draft" "LCertificateVault$Draft;" : Cond) ∈ zw_T := zw_in (i := 302) (by decide +kernel) rfl
theorem zt_303 : (.fieldLink zr_V 19 "CertificateVault" "tool" "LCertificateVault$Tool;" : Cond) ∈ zw_T := zw_in (i := 303) (by decide +kernel) rfl
theorem zt_304 : (.fieldLink zr_V 26 "CertificateVault" "shelf" "LCertificateVault$Shelf;" : Cond) ∈ zw_T := zw_in (i := 304) (by decide +kernel) rfl
theorem zt_305 : (.fieldLink zr_V 30 "CertificateVault" "latest" "LCertificateVault$Search;" : Cond) ∈ zw_T := zw_in (i := 305) (by decide +kernel) rfl
theorem zt_315 : (.methodLink zr_L 13 zn_V_put : Cond) ∈ zw_T := zw_in (i := 315) (by decide +kernel) rfl
theorem zt_316 : (.instanceMethod zn_V_put : Cond) ∈ zw_T := zw_in (i := 316) (by decide +kernel) rfl
theorem zt_317 : (.selects zr_V zn_V_put zn_V_put : Cond) ∈ zw_T := zw_in (i := 317) (by decide +kernel) rfl
theorem zt_318 : (.code zn_V_put ze_V_put 2 (some .boolean) : Cond) ∈ zw_T := zw_in (i := 318) (by decide +kernel) rfl
theorem zt_319 : (.methodLink zr_V 34 zn_Draft_append : Cond) ∈ zw_T := zw_in (i := 319) (by decide +kernel) rfl
theorem zt_320 : (.instanceMethod zn_Draft_append : Cond) ∈ zw_T := zw_in (i := 320) (by decide +kernel) rfl
theorem zt_321 : (.selects zr_Draft zn_Draft_append zn_Draft_append : Cond) ∈ zw_T := zw_in (i := 321) (by decide +kernel) rfl
theorem zt_322 : (.code zn_Draft_append ze_Draft_append 2 (some .boolean) : Cond) ∈ zw_T := zw_in (i := 322) (by decide +kernel) rfl
theorem zt_323 : (.methodLink zr_Draft 19 zn_Draft_isByte : Cond) ∈ zw_T := zw_in (i := 323) (by decide +kernel) rfl
theorem zt_324 : (.static zn_Draft_isByte : Cond) ∈ zw_T := zw_in (i := 324) (by decide +kernel) rfl
theorem zt_325 : (.code zn_Draft_isByte ze_Draft_isByte 1 (some .boolean) : Cond) ∈ zw_T := zw_in (i := 325) (by decide +kernel) rfl
theorem zt_326 : (.methodLink zr_L 18 zn_V_poke : Cond) ∈ zw_T := zw_in (i := 326) (by decide +kernel) rfl
theorem zt_327 : (.instanceMethod zn_V_poke : Cond) ∈ zw_T := zw_in (i := 327) (by decide +kernel) rfl
theorem zt_328 : (.selects zr_V zn_V_poke zn_V_poke : Cond) ∈ zw_T := zw_in (i := 328) (by decide +kernel) rfl
theorem zt_329 : (.code zn_V_poke ze_V_poke 3 (some .boolean) : Cond) ∈ zw_T := zw_in (i := 329) (by decide +kernel) rfl
theorem zt_330 : (.methodLink zr_V 38 zn_Draft_replace : Cond) ∈ zw_T := zw_in (i := 330) (by decide +kernel) rfl
theorem zt_331 : (.instanceMethod zn_Draft_replace : Cond) ∈ zw_T := zw_in (i := 331) (by decide +kernel) rfl
theorem zt_332 : (.selects zr_Draft zn_Draft_replace zn_Draft_replace : Cond) ∈ zw_T := zw_in (i := 332) (by decide +kernel) rfl
theorem zt_333 : (.code zn_Draft_replace ze_Draft_replace 3 (some .boolean) : Cond) ∈ zw_T := zw_in (i := 333) (by decide +kernel) rfl
theorem zt_334 : (.methodLink zr_Draft 23 zn_Draft_has : Cond) ∈ zw_T := zw_in (i := 334) (by decide +kernel) rfl
theorem zt_335 : (.instanceMethod zn_Draft_has : Cond) ∈ zw_T := zw_in (i := 335) (by decide +kernel) rfl
theorem zt_336 : (.selects zr_Draft zn_Draft_has zn_Draft_has : Cond) ∈ zw_T := zw_in (i := 336) (by decide +kernel) rfl
theorem zt_337 : (.code zn_Draft_has ze_Draft_has 2 (some .boolean) : Cond) ∈ zw_T := zw_in (i := 337) (by decide +kernel) rfl
theorem zt_338 : (.methodLink zr_L 23 zn_V_clear : Cond) ∈ zw_T := zw_in (i := 338) (by decide +kernel) rfl
theorem zt_339 : (.instanceMethod zn_V_clear : Cond) ∈ zw_T := zw_in (i := 339) (by decide +kernel) rfl
theorem zt_340 : (.selects zr_V zn_V_clear zn_V_clear : Cond) ∈ zw_T := zw_in (i := 340) (by decide +kernel) rfl
theorem zt_341 : (.code zn_V_clear ze_V_clear 1 none : Cond) ∈ zw_T := zw_in (i := 341) (by decide +kernel) rfl
theorem zt_342 : (.methodLink zr_V 42 zn_Draft_empty : Cond) ∈ zw_T := zw_in (i := 342) (by decide +kernel) rfl
theorem zt_343 : (.instanceMethod zn_Draft_empty : Cond) ∈ zw_T := zw_in (i := 343) (by decide +kernel) rfl
theorem zt_344 : (.selects zr_Draft zn_Draft_empty zn_Draft_empty : Cond) ∈ zw_T := zw_in (i := 344) (by decide +kernel) rfl
theorem zt_345 : (.code zn_Draft_empty ze_Draft_empty 1 none : Cond) ∈ zw_T := zw_in (i := 345) (by decide +kernel) rfl
theorem zt_346 : (.methodLink zr_L 27 zn_V_at : Cond) ∈ zw_T := zw_in (i := 346) (by decide +kernel) rfl
theorem zt_347 : (.instanceMethod zn_V_at : Cond) ∈ zw_T := zw_in (i := 347) (by decide +kernel) rfl
theorem zt_348 : (.selects zr_V zn_V_at zn_V_at : Cond) ∈ zw_T := zw_in (i := 348) (by decide +kernel) rfl
theorem zt_349 : (.code zn_V_at ze_V_at 2 (some .int) : Cond) ∈ zw_T := zw_in (i := 349) (by decide +kernel) rfl
theorem zt_350 : (.methodLink zr_V 49 zn_Draft_has : Cond) ∈ zw_T := zw_in (i := 350) (by decide +kernel) rfl
theorem zt_351 : (.methodLink zr_L 34 zn_V_set : Cond) ∈ zw_T := zw_in (i := 351) (by decide +kernel) rfl
theorem zt_352 : (.instanceMethod zn_V_set : Cond) ∈ zw_T := zw_in (i := 352) (by decide +kernel) rfl
theorem zt_353 : (.selects zr_V zn_V_set zn_V_set : Cond) ∈ zw_T := zw_in (i := 353) (by decide +kernel) rfl
theorem zt_354 : (.code zn_V_set ze_V_set 4 (some .boolean) : Cond) ∈ zw_T := zw_in (i := 354) (by decide +kernel) rfl
theorem zt_355 : (.methodLink zr_V 56 zn_Tool_accept : Cond) ∈ zw_T := zw_in (i := 355) (by decide +kernel) rfl
theorem zt_356 : (.instanceMethod zn_Tool_accept : Cond) ∈ zw_T := zw_in (i := 356) (by decide +kernel) rfl
theorem zt_357 : (.selects zr_Tool zn_Tool_accept zn_Tool_accept : Cond) ∈ zw_T := zw_in (i := 357) (by decide +kernel) rfl
theorem zt_358 : (.code zn_Tool_accept ze_Tool_accept 4 (some .boolean) : Cond) ∈ zw_T := zw_in (i := 358) (by decide +kernel) rfl
theorem zt_359 : (.methodLink zr_Tool 29 zn_Tool_isAllowed : Cond) ∈ zw_T := zw_in (i := 359) (by decide +kernel) rfl
theorem zt_360 : (.static zn_Tool_isAllowed : Cond) ∈ zw_T := zw_in (i := 360) (by decide +kernel) rfl
theorem zt_361 : (.code zn_Tool_isAllowed ze_Tool_isAllowed 3 (some .boolean) : Cond) ∈ zw_T := zw_in (i := 361) (by decide +kernel) rfl
theorem zt_362 : (.methodLink zr_Tool 33 zn_Names_isName : Cond) ∈ zw_T := zw_in (i := 362) (by decide +kernel) rfl
theorem zt_363 : (.static zn_Names_isName : Cond) ∈ zw_T := zw_in (i := 363) (by decide +kernel) rfl
theorem zt_364 : (.code zn_Names_isName ze_Names_isName 6 (some .boolean) : Cond) ∈ zw_T := zw_in (i := 364) (by decide +kernel) rfl
theorem zt_365 : (.methodLink zr_Tool 39 zn_Numbers_isKey : Cond) ∈ zw_T := zw_in (i := 365) (by decide +kernel) rfl
theorem zt_366 : (.static zn_Numbers_isKey : Cond) ∈ zw_T := zw_in (i := 366) (by decide +kernel) rfl
theorem zt_367 : (.code zn_Numbers_isKey ze_Numbers_isKey 2 (some .boolean) : Cond) ∈ zw_T := zw_in (i := 367) (by decide +kernel) rfl
theorem zt_368 : (.fieldLink zr_Numbers 9 "CertificateVault$Numbers" "MODULI" "[J" : Cond) ∈ zw_T := zw_in (i := 368) (by decide +kernel) rfl
theorem zt_370 : (.constantLong zr_Tool 44 (9) : Cond) ∈ zw_T := zw_in (i := 370) (by decide +kernel) rfl
theorem zt_371 : (.constantLong zr_Tool 46 (7) : Cond) ∈ zw_T := zw_in (i := 371) (by decide +kernel) rfl
theorem zt_372 : (.constantLong zr_Tool 48 (2) : Cond) ∈ zw_T := zw_in (i := 372) (by decide +kernel) rfl
theorem zt_373 : (.methodLink zr_L 39 zn_V_revoke : Cond) ∈ zw_T := zw_in (i := 373) (by decide +kernel) rfl
theorem zt_374 : (.instanceMethod zn_V_revoke : Cond) ∈ zw_T := zw_in (i := 374) (by decide +kernel) rfl
theorem zt_375 : (.selects zr_V zn_V_revoke zn_V_revoke : Cond) ∈ zw_T := zw_in (i := 375) (by decide +kernel) rfl
theorem zt_376 : (.code zn_V_revoke ze_V_revoke 5 (some .boolean) : Cond) ∈ zw_T := zw_in (i := 376) (by decide +kernel) rfl
theorem zt_377 : (.methodLink zr_V 60 zn_Tool_addRevoked : Cond) ∈ zw_T := zw_in (i := 377) (by decide +kernel) rfl
theorem zt_378 : (.instanceMethod zn_Tool_addRevoked : Cond) ∈ zw_T := zw_in (i := 378) (by decide +kernel) rfl
theorem zt_379 : (.selects zr_Tool zn_Tool_addRevoked zn_Tool_addRevoked : Cond) ∈ zw_T := zw_in (i := 379) (by decide +kernel) rfl
theorem zt_380 : (.code zn_Tool_addRevoked ze_Tool_addRevoked 5 (some .boolean) : Cond) ∈ zw_T := zw_in (i := 380) (by decide +kernel) rfl
theorem zt_381 : (.methodLink zr_L 44 zn_V_forgive : Cond) ∈ zw_T := zw_in (i := 381) (by decide +kernel) rfl
theorem zt_382 : (.instanceMethod zn_V_forgive : Cond) ∈ zw_T := zw_in (i := 382) (by decide +kernel) rfl
theorem zt_383 : (.selects zr_V zn_V_forgive zn_V_forgive : Cond) ∈ zw_T := zw_in (i := 383) (by decide +kernel) rfl
theorem zt_384 : (.code zn_V_forgive ze_V_forgive 1 none : Cond) ∈ zw_T := zw_in (i := 384) (by decide +kernel) rfl
theorem zt_385 : (.methodLink zr_V 64 zn_Tool_dropRevoked : Cond) ∈ zw_T := zw_in (i := 385) (by decide +kernel) rfl
theorem zt_386 : (.instanceMethod zn_Tool_dropRevoked : Cond) ∈ zw_T := zw_in (i := 386) (by decide +kernel) rfl
theorem zt_387 : (.selects zr_Tool zn_Tool_dropRevoked zn_Tool_dropRevoked : Cond) ∈ zw_T := zw_in (i := 387) (by decide +kernel) rfl
theorem zt_388 : (.code zn_Tool_dropRevoked ze_Tool_dropRevoked 1 none : Cond) ∈ zw_T := zw_in (i := 388) (by decide +kernel) rfl
theorem zt_389 : (.methodLink zr_L 48 zn_V_compose : Cond) ∈ zw_T := zw_in (i := 389) (by decide +kernel) rfl
theorem zt_390 : (.instanceMethod zn_V_compose : Cond) ∈ zw_T := zw_in (i := 390) (by decide +kernel) rfl
theorem zt_391 : (.selects zr_V zn_V_compose zn_V_compose : Cond) ∈ zw_T := zw_in (i := 391) (by decide +kernel) rfl
theorem zt_392 : (.code zn_V_compose ze_V_compose 1 (some .int) : Cond) ∈ zw_T := zw_in (i := 392) (by decide +kernel) rfl
theorem zt_393 : (.methodLink zr_V 67 zn_Tool_writeCertificate : Cond) ∈ zw_T := zw_in (i := 393) (by decide +kernel) rfl
theorem zt_394 : (.instanceMethod zn_Tool_writeCertificate : Cond) ∈ zw_T := zw_in (i := 394) (by decide +kernel) rfl
theorem zt_395 : (.selects zr_Tool zn_Tool_writeCertificate zn_Tool_writeCertificate : Cond) ∈ zw_T := zw_in (i := 395) (by decide +kernel) rfl
theorem zt_396 : (.code zn_Tool_writeCertificate ze_Tool_writeCertificate 3 (some .int) : Cond) ∈ zw_T := zw_in (i := 396) (by decide +kernel) rfl
theorem zt_397 : (.methodLink zr_Tool 50 zn_Draft_empty : Cond) ∈ zw_T := zw_in (i := 397) (by decide +kernel) rfl
theorem zt_398 : (.methodLink zr_Tool 55 zn_Draft_appendInteger : Cond) ∈ zw_T := zw_in (i := 398) (by decide +kernel) rfl
theorem zt_399 : (.instanceMethod zn_Draft_appendInteger : Cond) ∈ zw_T := zw_in (i := 399) (by decide +kernel) rfl
theorem zt_400 : (.selects zr_Draft zn_Draft_appendInteger zn_Draft_appendInteger : Cond) ∈ zw_T := zw_in (i := 400) (by decide +kernel) rfl
theorem zt_401 : (.code zn_Draft_appendInteger ze_Draft_appendInteger 5 none : Cond) ∈ zw_T := zw_in (i := 401) (by decide +kernel) rfl
theorem zt_402 : (.methodLink zr_Draft 26 zn_Draft_append : Cond) ∈ zw_T := zw_in (i := 402) (by decide +kernel) rfl
theorem zt_403 : (.methodLink zr_Tool 59 zn_Draft_appendName : Cond) ∈ zw_T := zw_in (i := 403) (by decide +kernel) rfl
theorem zt_404 : (.instanceMethod zn_Draft_appendName : Cond) ∈ zw_T := zw_in (i := 404) (by decide +kernel) rfl
theorem zt_405 : (.selects zr_Draft zn_Draft_appendName zn_Draft_appendName : Cond) ∈ zw_T := zw_in (i := 405) (by decide +kernel) rfl
theorem zt_406 : (.code zn_Draft_appendName ze_Draft_appendName 6 none : Cond) ∈ zw_T := zw_in (i := 406) (by decide +kernel) rfl
theorem zt_407 : (.methodLink zr_Draft 29 zn_Names_length : Cond) ∈ zw_T := zw_in (i := 407) (by decide +kernel) rfl
theorem zt_408 : (.static zn_Names_length : Cond) ∈ zw_T := zw_in (i := 408) (by decide +kernel) rfl
theorem zt_409 : (.code zn_Names_length ze_Names_length 5 (some .int) : Cond) ∈ zw_T := zw_in (i := 409) (by decide +kernel) rfl
theorem zt_410 : (.methodLink zr_Draft 35 zn_Names_toAscii : Cond) ∈ zw_T := zw_in (i := 410) (by decide +kernel) rfl
theorem zt_411 : (.static zn_Names_toAscii : Cond) ∈ zw_T := zw_in (i := 411) (by decide +kernel) rfl
theorem zt_412 : (.code zn_Names_toAscii ze_Names_toAscii 1 (some .int) : Cond) ∈ zw_T := zw_in (i := 412) (by decide +kernel) rfl
theorem zt_413 : (.fieldLink zr_Tool 63 "CertificateVault$Numbers" "MODULI" "[J" : Cond) ∈ zw_T := zw_in (i := 413) (by decide +kernel) rfl
theorem zt_414 : (.fieldLink zr_Tool 66 "CertificateVault$Numbers" "EXPONENTS" "[J" : Cond) ∈ zw_T := zw_in (i := 414) (by decide +kernel) rfl
theorem zt_416 : (.methodLink zr_Tool 69 zn_Tool_writeExtensions : Cond) ∈ zw_T := zw_in (i := 416) (by decide +kernel) rfl
theorem zt_418 : (.instanceMethod zn_Tool_writeExtensions : Cond) ∈ zw_T := zw_in (i := 418) (by decide +kernel) rfl
theorem zt_419 : (.code zn_Tool_writeExtensions ze_Tool_writeExtensions 3 none : Cond) ∈ zw_T := zw_in (i := 419) (by decide +kernel) rfl
theorem zt_420 : (.methodLink zr_Tool 92 zn_Tool_writeBasic : Cond) ∈ zw_T := zw_in (i := 420) (by decide +kernel) rfl
theorem zt_422 : (.instanceMethod zn_Tool_writeBasic : Cond) ∈ zw_T := zw_in (i := 422) (by decide +kernel) rfl
theorem zt_423 : (.code zn_Tool_writeBasic ze_Tool_writeBasic 4 none : Cond) ∈ zw_T := zw_in (i := 423) (by decide +kernel) rfl
theorem zt_424 : (.methodLink zr_Tool 104 zn_Draft_appendTrue : Cond) ∈ zw_T := zw_in (i := 424) (by decide +kernel) rfl
theorem zt_425 : (.instanceMethod zn_Draft_appendTrue : Cond) ∈ zw_T := zw_in (i := 425) (by decide +kernel) rfl
theorem zt_426 : (.selects zr_Draft zn_Draft_appendTrue zn_Draft_appendTrue : Cond) ∈ zw_T := zw_in (i := 426) (by decide +kernel) rfl
theorem zt_427 : (.code zn_Draft_appendTrue ze_Draft_appendTrue 1 none : Cond) ∈ zw_T := zw_in (i := 427) (by decide +kernel) rfl
theorem zt_428 : (.methodLink zr_Tool 80 zn_Draft_wrap : Cond) ∈ zw_T := zw_in (i := 428) (by decide +kernel) rfl
theorem zt_429 : (.instanceMethod zn_Draft_wrap : Cond) ∈ zw_T := zw_in (i := 429) (by decide +kernel) rfl
theorem zt_430 : (.selects zr_Draft zn_Draft_wrap zn_Draft_wrap : Cond) ∈ zw_T := zw_in (i := 430) (by decide +kernel) rfl
theorem zt_431 : (.code zn_Draft_wrap ze_Draft_wrap 5 none : Cond) ∈ zw_T := zw_in (i := 431) (by decide +kernel) rfl
theorem zt_432 : (.methodLink zr_Draft 39 arraycopyName : Cond) ∈ zw_T := zw_in (i := 432) (by decide +kernel) rfl
theorem zt_433 : (.static arraycopyName : Cond) ∈ zw_T := zw_in (i := 433) (by decide +kernel) rfl
theorem zt_434 : (.native arraycopyName : Cond) ∈ zw_T := zw_in (i := 434) (by decide +kernel) rfl
theorem zt_435 : (.methodLink zr_Tool 95 zn_Tool_writeUsage : Cond) ∈ zw_T := zw_in (i := 435) (by decide +kernel) rfl
theorem zt_437 : (.instanceMethod zn_Tool_writeUsage : Cond) ∈ zw_T := zw_in (i := 437) (by decide +kernel) rfl
theorem zt_438 : (.code zn_Tool_writeUsage ze_Tool_writeUsage 3 none : Cond) ∈ zw_T := zw_in (i := 438) (by decide +kernel) rfl
theorem zt_439 : (.methodLink zr_Tool 98 zn_Tool_writeRealm : Cond) ∈ zw_T := zw_in (i := 439) (by decide +kernel) rfl
theorem zt_441 : (.instanceMethod zn_Tool_writeRealm : Cond) ∈ zw_T := zw_in (i := 441) (by decide +kernel) rfl
theorem zt_442 : (.code zn_Tool_writeRealm ze_Tool_writeRealm 4 none : Cond) ∈ zw_T := zw_in (i := 442) (by decide +kernel) rfl
theorem zt_443 : (.constantLong zr_Tool 107 (3) : Cond) ∈ zw_T := zw_in (i := 443) (by decide +kernel) rfl
theorem zt_444 : (.methodLink zr_Tool 101 zn_Tool_writeOwnExtension : Cond) ∈ zw_T := zw_in (i := 444) (by decide +kernel) rfl
theorem zt_446 : (.instanceMethod zn_Tool_writeOwnExtension : Cond) ∈ zw_T := zw_in (i := 446) (by decide +kernel) rfl
theorem zt_447 : (.code zn_Tool_writeOwnExtension ze_Tool_writeOwnExtension 3 none : Cond) ∈ zw_T := zw_in (i := 447) (by decide +kernel) rfl
theorem zt_448 : (.methodLink zr_Tool 73 zn_Tool_finish : Cond) ∈ zw_T := zw_in (i := 448) (by decide +kernel) rfl
theorem zt_450 : (.instanceMethod zn_Tool_finish : Cond) ∈ zw_T := zw_in (i := 450) (by decide +kernel) rfl
theorem zt_451 : (.code zn_Tool_finish ze_Tool_finish 3 (some .int) : Cond) ∈ zw_T := zw_in (i := 451) (by decide +kernel) rfl
theorem zt_452 : (.methodLink zr_Tool 84 zn_Draft_hash : Cond) ∈ zw_T := zw_in (i := 452) (by decide +kernel) rfl
theorem zt_453 : (.instanceMethod zn_Draft_hash : Cond) ∈ zw_T := zw_in (i := 453) (by decide +kernel) rfl
theorem zt_454 : (.selects zr_Draft zn_Draft_hash zn_Draft_hash : Cond) ∈ zw_T := zw_in (i := 454) (by decide +kernel) rfl
theorem zt_455 : (.code zn_Draft_hash ze_Draft_hash 5 (some .int) : Cond) ∈ zw_T := zw_in (i := 455) (by decide +kernel) rfl
theorem zt_456 : (.constant zr_Draft 45 (-2128831035) : Cond) ∈ zw_T := zw_in (i := 456) (by decide +kernel) rfl
theorem zt_457 : (.constant zr_Draft 46 (16777619) : Cond) ∈ zw_T := zw_in (i := 457) (by decide +kernel) rfl
theorem zt_458 : (.methodLink zr_Tool 88 zn_Numbers_signature : Cond) ∈ zw_T := zw_in (i := 458) (by decide +kernel) rfl
theorem zt_459 : (.static zn_Numbers_signature : Cond) ∈ zw_T := zw_in (i := 459) (by decide +kernel) rfl
theorem zt_460 : (.code zn_Numbers_signature ze_Numbers_signature 2 (some .long) : Cond) ∈ zw_T := zw_in (i := 460) (by decide +kernel) rfl
theorem zt_461 : (.methodLink zr_Numbers 13 zn_Numbers_block : Cond) ∈ zw_T := zw_in (i := 461) (by decide +kernel) rfl
theorem zt_462 : (.static zn_Numbers_block : Cond) ∈ zw_T := zw_in (i := 462) (by decide +kernel) rfl
theorem zt_463 : (.code zn_Numbers_block ze_Numbers_block 1 (some .long) : Cond) ∈ zw_T := zw_in (i := 463) (by decide +kernel) rfl
theorem zt_464 : (.constantLong zr_Numbers 32 (561850441793536) : Cond) ∈ zw_T := zw_in (i := 464) (by decide +kernel) rfl
theorem zt_465 : (.constantLong zr_Numbers 34 (4294967295) : Cond) ∈ zw_T := zw_in (i := 465) (by decide +kernel) rfl
theorem zt_466 : (.fieldLink zr_Numbers 17 "CertificateVault$Numbers" "PRIVATE_EXPONENTS" "[J" : Cond) ∈ zw_T := zw_in (i := 466) (by decide +kernel) rfl
theorem zt_468 : (.methodLink zr_Numbers 20 zn_Numbers_power : Cond) ∈ zw_T := zw_in (i := 468) (by decide +kernel) rfl
theorem zt_469 : (.static zn_Numbers_power : Cond) ∈ zw_T := zw_in (i := 469) (by decide +kernel) rfl
theorem zt_470 : (.code zn_Numbers_power ze_Numbers_power 12 (some .long) : Cond) ∈ zw_T := zw_in (i := 470) (by decide +kernel) rfl
theorem zt_471 : (.methodLink zr_Numbers 36 zn_Numbers_times : Cond) ∈ zw_T := zw_in (i := 471) (by decide +kernel) rfl
theorem zt_472 : (.static zn_Numbers_times : Cond) ∈ zw_T := zw_in (i := 472) (by decide +kernel) rfl
theorem zt_473 : (.code zn_Numbers_times ze_Numbers_times 20 (some .long) : Cond) ∈ zw_T := zw_in (i := 473) (by decide +kernel) rfl
theorem zt_474 : (.constantLong zr_Numbers 30 (2147483647) : Cond) ∈ zw_T := zw_in (i := 474) (by decide +kernel) rfl
theorem zt_475 : (.methodLink zr_Numbers 39 zn_Numbers_lift : Cond) ∈ zw_T := zw_in (i := 475) (by decide +kernel) rfl
theorem zt_476 : (.static zn_Numbers_lift : Cond) ∈ zw_T := zw_in (i := 476) (by decide +kernel) rfl
theorem zt_477 : (.code zn_Numbers_lift ze_Numbers_lift 6 (some .long) : Cond) ∈ zw_T := zw_in (i := 477) (by decide +kernel) rfl
theorem zt_478 : (.methodLink zr_L 53 zn_V_composeList : Cond) ∈ zw_T := zw_in (i := 478) (by decide +kernel) rfl
theorem zt_479 : (.instanceMethod zn_V_composeList : Cond) ∈ zw_T := zw_in (i := 479) (by decide +kernel) rfl
theorem zt_480 : (.selects zr_V zn_V_composeList zn_V_composeList : Cond) ∈ zw_T := zw_in (i := 480) (by decide +kernel) rfl
theorem zt_481 : (.code zn_V_composeList ze_V_composeList 1 (some .int) : Cond) ∈ zw_T := zw_in (i := 481) (by decide +kernel) rfl
theorem zt_482 : (.methodLink zr_V 71 zn_Tool_writeList : Cond) ∈ zw_T := zw_in (i := 482) (by decide +kernel) rfl
theorem zt_483 : (.instanceMethod zn_Tool_writeList : Cond) ∈ zw_T := zw_in (i := 483) (by decide +kernel) rfl
theorem zt_484 : (.selects zr_Tool zn_Tool_writeList zn_Tool_writeList : Cond) ∈ zw_T := zw_in (i := 484) (by decide +kernel) rfl
theorem zt_485 : (.code zn_Tool_writeList ze_Tool_writeList 5 (some .int) : Cond) ∈ zw_T := zw_in (i := 485) (by decide +kernel) rfl
theorem zt_486 : (.methodLink zr_L 57 zn_V_check : Cond) ∈ zw_T := zw_in (i := 486) (by decide +kernel) rfl
theorem zt_487 : (.instanceMethod zn_V_check : Cond) ∈ zw_T := zw_in (i := 487) (by decide +kernel) rfl
theorem zt_488 : (.selects zr_V zn_V_check zn_V_check : Cond) ∈ zw_T := zw_in (i := 488) (by decide +kernel) rfl
theorem zt_489 : (.code zn_V_check ze_V_check 3 (some .int) : Cond) ∈ zw_T := zw_in (i := 489) (by decide +kernel) rfl
theorem zt_490 : (.classLink zr_V 74 zr_Reader : Cond) ∈ zw_T := zw_in (i := 490) (by decide +kernel) rfl
theorem zt_491 : (.instantiable zr_Reader 3 : Cond) ∈ zw_T := zw_in (i := 491) (by decide +kernel) rfl
theorem zt_492 : (.methodLink zr_V 76 zn_Reader_init : Cond) ∈ zw_T := zw_in (i := 492) (by decide +kernel) rfl
theorem zt_493 : (.instanceMethod zn_Reader_init : Cond) ∈ zw_T := zw_in (i := 493) (by decide +kernel) rfl
theorem zt_494 : (.code zn_Reader_init ze_Reader_init 2 none : Cond) ∈ zw_T := zw_in (i := 494) (by decide +kernel) rfl
theorem zt_495 : (.methodLink zr_Reader 3 objectInit : Cond) ∈ zw_T := zw_in (i := 495) (by decide +kernel) rfl
theorem zt_496 : (.fieldLink zr_Reader 18 "CertificateVault$Reader" "draft" "LCertificateVault$Draft;" : Cond) ∈ zw_T := zw_in (i := 496) (by decide +kernel) rfl
theorem zt_497 : (.fieldLink zr_Reader 9 "CertificateVault$Reader" "position" "I" : Cond) ∈ zw_T := zw_in (i := 497) (by decide +kernel) rfl
theorem zt_498 : (.fieldLink zr_Reader 15 "CertificateVault$Reader" "fault" "I" : Cond) ∈ zw_T := zw_in (i := 498) (by decide +kernel) rfl
theorem zt_506 : (.methodLink zr_V 79 zn_Shelf_nextCertificate : Cond) ∈ zw_T := zw_in (i := 506) (by decide +kernel) rfl
theorem zt_507 : (.instanceMethod zn_Shelf_nextCertificate : Cond) ∈ zw_T := zw_in (i := 507) (by decide +kernel) rfl
theorem zt_508 : (.selects zr_Shelf zn_Shelf_nextCertificate zn_Shelf_nextCertificate : Cond) ∈ zw_T := zw_in (i := 508) (by decide +kernel) rfl
theorem zt_509 : (.code zn_Shelf_nextCertificate ze_Shelf_nextCertificate 1 (some (.object "CertificateVault$Certificate")) : Cond) ∈ zw_T := zw_in (i := 509) (by decide +kernel) rfl
theorem zt_510 : (.methodLink zr_V 83 zn_Reader_readCertificate : Cond) ∈ zw_T := zw_in (i := 510) (by decide +kernel) rfl
theorem zt_511 : (.instanceMethod zn_Reader_readCertificate : Cond) ∈ zw_T := zw_in (i := 511) (by decide +kernel) rfl
theorem zt_512 : (.selects zr_Reader zn_Reader_readCertificate zn_Reader_readCertificate : Cond) ∈ zw_T := zw_in (i := 512) (by decide +kernel) rfl
theorem zt_513 : (.code zn_Reader_readCertificate ze_Reader_readCertificate 5 (some .int) : Cond) ∈ zw_T := zw_in (i := 513) (by decide +kernel) rfl
theorem zt_514 : (.methodLink zr_Reader 22 zn_Certificate_forget : Cond) ∈ zw_T := zw_in (i := 514) (by decide +kernel) rfl
theorem zt_515 : (.instanceMethod zn_Certificate_forget : Cond) ∈ zw_T := zw_in (i := 515) (by decide +kernel) rfl
theorem zt_516 : (.selects zr_Certificate zn_Certificate_forget zn_Certificate_forget : Cond) ∈ zw_T := zw_in (i := 516) (by decide +kernel) rfl
theorem zt_517 : (.code zn_Certificate_forget ze_Certificate_forget 1 none : Cond) ∈ zw_T := zw_in (i := 517) (by decide +kernel) rfl
theorem zt_518 : (.constantLong zr_Certificate 9 (-1) : Cond) ∈ zw_T := zw_in (i := 518) (by decide +kernel) rfl
theorem zt_519 : (.methodLink zr_Reader 32 zn_Reader_open : Cond) ∈ zw_T := zw_in (i := 519) (by decide +kernel) rfl
theorem zt_521 : (.instanceMethod zn_Reader_open : Cond) ∈ zw_T := zw_in (i := 521) (by decide +kernel) rfl
theorem zt_522 : (.code zn_Reader_open ze_Reader_open 5 (some .int) : Cond) ∈ zw_T := zw_in (i := 522) (by decide +kernel) rfl
theorem zt_523 : (.methodLink zr_Reader 113 zn_Reader_fail : Cond) ∈ zw_T := zw_in (i := 523) (by decide +kernel) rfl
theorem zt_525 : (.instanceMethod zn_Reader_fail : Cond) ∈ zw_T := zw_in (i := 525) (by decide +kernel) rfl
theorem zt_526 : (.code zn_Reader_fail ze_Reader_fail 3 (some .int) : Cond) ∈ zw_T := zw_in (i := 526) (by decide +kernel) rfl
theorem zt_527 : (.methodLink zr_Reader 36 zn_Reader_readInteger : Cond) ∈ zw_T := zw_in (i := 527) (by decide +kernel) rfl
theorem zt_529 : (.instanceMethod zn_Reader_readInteger : Cond) ∈ zw_T := zw_in (i := 529) (by decide +kernel) rfl
theorem zt_530 : (.code zn_Reader_readInteger ze_Reader_readInteger 6 (some .long) : Cond) ∈ zw_T := zw_in (i := 530) (by decide +kernel) rfl
theorem zt_531 : (.methodLink zr_Reader 163 zn_Reader_isInteger : Cond) ∈ zw_T := zw_in (i := 531) (by decide +kernel) rfl
theorem zt_533 : (.instanceMethod zn_Reader_isInteger : Cond) ∈ zw_T := zw_in (i := 533) (by decide +kernel) rfl
theorem zt_534 : (.code zn_Reader_isInteger ze_Reader_isInteger 4 (some .boolean) : Cond) ∈ zw_T := zw_in (i := 534) (by decide +kernel) rfl
theorem zt_535 : (.methodLink zr_Reader 44 zn_Reader_readName : Cond) ∈ zw_T := zw_in (i := 535) (by decide +kernel) rfl
theorem zt_537 : (.instanceMethod zn_Reader_readName : Cond) ∈ zw_T := zw_in (i := 537) (by decide +kernel) rfl
theorem zt_538 : (.code zn_Reader_readName ze_Reader_readName 8 (some .long) : Cond) ∈ zw_T := zw_in (i := 538) (by decide +kernel) rfl
theorem zt_539 : (.methodLink zr_Reader 172 zn_Names_fromAscii : Cond) ∈ zw_T := zw_in (i := 539) (by decide +kernel) rfl
theorem zt_540 : (.static zn_Names_fromAscii : Cond) ∈ zw_T := zw_in (i := 540) (by decide +kernel) rfl
theorem zt_541 : (.code zn_Names_fromAscii ze_Names_fromAscii 1 (some .int) : Cond) ∈ zw_T := zw_in (i := 541) (by decide +kernel) rfl
theorem zt_542 : (.methodLink zr_Reader 176 zn_Names_isName : Cond) ∈ zw_T := zw_in (i := 542) (by decide +kernel) rfl
theorem zt_543 : (.methodLink zr_Reader 66 zn_Reader_isNext : Cond) ∈ zw_T := zw_in (i := 543) (by decide +kernel) rfl
theorem zt_545 : (.instanceMethod zn_Reader_isNext : Cond) ∈ zw_T := zw_in (i := 545) (by decide +kernel) rfl
theorem zt_546 : (.code zn_Reader_isNext ze_Reader_isNext 3 (some .boolean) : Cond) ∈ zw_T := zw_in (i := 546) (by decide +kernel) rfl
theorem zt_547 : (.methodLink zr_Reader 70 zn_Reader_readExtensions : Cond) ∈ zw_T := zw_in (i := 547) (by decide +kernel) rfl
theorem zt_549 : (.instanceMethod zn_Reader_readExtensions : Cond) ∈ zw_T := zw_in (i := 549) (by decide +kernel) rfl
theorem zt_550 : (.code zn_Reader_readExtensions ze_Reader_readExtensions 7 none : Cond) ∈ zw_T := zw_in (i := 550) (by decide +kernel) rfl
theorem zt_551 : (.constantLong zr_Reader 107 (-1) : Cond) ∈ zw_T := zw_in (i := 551) (by decide +kernel) rfl
theorem zt_552 : (.methodLink zr_Reader 109 zn_Reader_readExtension : Cond) ∈ zw_T := zw_in (i := 552) (by decide +kernel) rfl
theorem zt_554 : (.instanceMethod zn_Reader_readExtension : Cond) ∈ zw_T := zw_in (i := 554) (by decide +kernel) rfl
theorem zt_555 : (.code zn_Reader_readExtension ze_Reader_readExtension 10 (some .long) : Cond) ∈ zw_T := zw_in (i := 555) (by decide +kernel) rfl
theorem zt_556 : (.methodLink zr_Reader 116 zn_Reader_readFlag : Cond) ∈ zw_T := zw_in (i := 556) (by decide +kernel) rfl
theorem zt_558 : (.instanceMethod zn_Reader_readFlag : Cond) ∈ zw_T := zw_in (i := 558) (by decide +kernel) rfl
theorem zt_559 : (.code zn_Reader_readFlag ze_Reader_readFlag 4 (some .boolean) : Cond) ∈ zw_T := zw_in (i := 559) (by decide +kernel) rfl
theorem zt_560 : (.methodLink zr_Reader 120 zn_Reader_readBasic : Cond) ∈ zw_T := zw_in (i := 560) (by decide +kernel) rfl
theorem zt_562 : (.instanceMethod zn_Reader_readBasic : Cond) ∈ zw_T := zw_in (i := 562) (by decide +kernel) rfl
theorem zt_563 : (.code zn_Reader_readBasic ze_Reader_readBasic 4 none : Cond) ∈ zw_T := zw_in (i := 563) (by decide +kernel) rfl
theorem zt_564 : (.methodLink zr_Reader 74 zn_Reader_close : Cond) ∈ zw_T := zw_in (i := 564) (by decide +kernel) rfl
theorem zt_566 : (.instanceMethod zn_Reader_close : Cond) ∈ zw_T := zw_in (i := 566) (by decide +kernel) rfl
theorem zt_567 : (.code zn_Reader_close ze_Reader_close 2 none : Cond) ∈ zw_T := zw_in (i := 567) (by decide +kernel) rfl
theorem zt_568 : (.constantLong zr_Reader 123 (2) : Cond) ∈ zw_T := zw_in (i := 568) (by decide +kernel) rfl
theorem zt_569 : (.methodLink zr_Reader 125 zn_Reader_readUsage : Cond) ∈ zw_T := zw_in (i := 569) (by decide +kernel) rfl
theorem zt_571 : (.instanceMethod zn_Reader_readUsage : Cond) ∈ zw_T := zw_in (i := 571) (by decide +kernel) rfl
theorem zt_572 : (.code zn_Reader_readUsage ze_Reader_readUsage 6 none : Cond) ∈ zw_T := zw_in (i := 572) (by decide +kernel) rfl
theorem zt_573 : (.constantLong zr_Reader 152 (7) : Cond) ∈ zw_T := zw_in (i := 573) (by decide +kernel) rfl
theorem zt_574 : (.constantLong zr_Reader 128 (3) : Cond) ∈ zw_T := zw_in (i := 574) (by decide +kernel) rfl
theorem zt_575 : (.methodLink zr_Reader 130 zn_Reader_readRealm : Cond) ∈ zw_T := zw_in (i := 575) (by decide +kernel) rfl
theorem zt_577 : (.instanceMethod zn_Reader_readRealm : Cond) ∈ zw_T := zw_in (i := 577) (by decide +kernel) rfl
theorem zt_578 : (.code zn_Reader_readRealm ze_Reader_readRealm 5 none : Cond) ∈ zw_T := zw_in (i := 578) (by decide +kernel) rfl
theorem zt_579 : (.methodLink zr_Reader 133 zn_Reader_skipOpaque : Cond) ∈ zw_T := zw_in (i := 579) (by decide +kernel) rfl
theorem zt_581 : (.instanceMethod zn_Reader_skipOpaque : Cond) ∈ zw_T := zw_in (i := 581) (by decide +kernel) rfl
theorem zt_582 : (.code zn_Reader_skipOpaque ze_Reader_skipOpaque 3 none : Cond) ∈ zw_T := zw_in (i := 582) (by decide +kernel) rfl
theorem zt_583 : (.methodLink zr_Reader 78 zn_Reader_readSignature : Cond) ∈ zw_T := zw_in (i := 583) (by decide +kernel) rfl
theorem zt_585 : (.instanceMethod zn_Reader_readSignature : Cond) ∈ zw_T := zw_in (i := 585) (by decide +kernel) rfl
theorem zt_586 : (.code zn_Reader_readSignature ze_Reader_readSignature 4 none : Cond) ∈ zw_T := zw_in (i := 586) (by decide +kernel) rfl
theorem zt_587 : (.methodLink zr_Reader 97 zn_Draft_hash : Cond) ∈ zw_T := zw_in (i := 587) (by decide +kernel) rfl
theorem zt_588 : (.methodLink zr_V 87 zn_Shelf_nextList : Cond) ∈ zw_T := zw_in (i := 588) (by decide +kernel) rfl
theorem zt_589 : (.instanceMethod zn_Shelf_nextList : Cond) ∈ zw_T := zw_in (i := 589) (by decide +kernel) rfl
theorem zt_590 : (.selects zr_Shelf zn_Shelf_nextList zn_Shelf_nextList : Cond) ∈ zw_T := zw_in (i := 590) (by decide +kernel) rfl
theorem zt_591 : (.code zn_Shelf_nextList ze_Shelf_nextList 1 (some (.object "CertificateVault$RevokedList")) : Cond) ∈ zw_T := zw_in (i := 591) (by decide +kernel) rfl
theorem zt_592 : (.methodLink zr_V 91 zn_Reader_readList : Cond) ∈ zw_T := zw_in (i := 592) (by decide +kernel) rfl
theorem zt_593 : (.instanceMethod zn_Reader_readList : Cond) ∈ zw_T := zw_in (i := 593) (by decide +kernel) rfl
theorem zt_594 : (.selects zr_Reader zn_Reader_readList zn_Reader_readList : Cond) ∈ zw_T := zw_in (i := 594) (by decide +kernel) rfl
theorem zt_595 : (.code zn_Reader_readList ze_Reader_readList 8 (some .int) : Cond) ∈ zw_T := zw_in (i := 595) (by decide +kernel) rfl
theorem zt_596 : (.methodLink zr_L 62 zn_V_store : Cond) ∈ zw_T := zw_in (i := 596) (by decide +kernel) rfl
theorem zt_597 : (.instanceMethod zn_V_store : Cond) ∈ zw_T := zw_in (i := 597) (by decide +kernel) rfl
theorem zt_598 : (.selects zr_V zn_V_store zn_V_store : Cond) ∈ zw_T := zw_in (i := 598) (by decide +kernel) rfl
theorem zt_599 : (.code zn_V_store ze_V_store 4 (some .int) : Cond) ∈ zw_T := zw_in (i := 599) (by decide +kernel) rfl
theorem zt_600 : (.methodLink zr_V 98 zn_Shelf_keepList : Cond) ∈ zw_T := zw_in (i := 600) (by decide +kernel) rfl
theorem zt_601 : (.instanceMethod zn_Shelf_keepList : Cond) ∈ zw_T := zw_in (i := 601) (by decide +kernel) rfl
theorem zt_602 : (.selects zr_Shelf zn_Shelf_keepList zn_Shelf_keepList : Cond) ∈ zw_T := zw_in (i := 602) (by decide +kernel) rfl
theorem zt_603 : (.code zn_Shelf_keepList ze_Shelf_keepList 3 (some .int) : Cond) ∈ zw_T := zw_in (i := 603) (by decide +kernel) rfl
theorem zt_604 : (.methodLink zr_Shelf 40 ⟨zr_RevokedList, "noteSigner", "(ILCertificateVault$Certificate;)V"⟩ : Cond) ∈ zw_T := zw_in (i := 604) (by decide +kernel) rfl
theorem zt_605 : (.sameMethod zr_RevokedList zr_Signed "noteSigner" "(ILCertificateVault$Certificate;)V" : Cond) ∈ zw_T := zw_in (i := 605) (by decide +kernel) rfl
theorem zt_607 : (.selects zr_RevokedList ⟨zr_RevokedList, "noteSigner", "(ILCertificateVault$Certificate;)V"⟩ zn_Signed_noteSigner : Cond) ∈ zw_T := zw_in (i := 607) (by decide +kernel) rfl
theorem zt_608 : (.instanceMethod zn_Signed_noteSigner : Cond) ∈ zw_T := zw_in (i := 608) (by decide +kernel) rfl
theorem zt_609 : (.code zn_Signed_noteSigner ze_Signed_noteSigner 3 none : Cond) ∈ zw_T := zw_in (i := 609) (by decide +kernel) rfl
theorem zt_610 : (.methodLink zr_Signed 40 zn_Numbers_isGood : Cond) ∈ zw_T := zw_in (i := 610) (by decide +kernel) rfl
theorem zt_611 : (.static zn_Numbers_isGood : Cond) ∈ zw_T := zw_in (i := 611) (by decide +kernel) rfl
theorem zt_612 : (.code zn_Numbers_isGood ze_Numbers_isGood 7 (some .boolean) : Cond) ∈ zw_T := zw_in (i := 612) (by decide +kernel) rfl
theorem zt_613 : (.constantLong zr_Numbers 24 (144115188075855872) : Cond) ∈ zw_T := zw_in (i := 613) (by decide +kernel) rfl
theorem zt_614 : (.constantLong zr_Numbers 26 (4611686018427387903) : Cond) ∈ zw_T := zw_in (i := 614) (by decide +kernel) rfl
theorem zt_615 : (.constantLong zr_Numbers 28 (3) : Cond) ∈ zw_T := zw_in (i := 615) (by decide +kernel) rfl
theorem zt_616 : (.methodLink zr_V 105 zn_Shelf_keepCertificate : Cond) ∈ zw_T := zw_in (i := 616) (by decide +kernel) rfl
theorem zt_617 : (.instanceMethod zn_Shelf_keepCertificate : Cond) ∈ zw_T := zw_in (i := 617) (by decide +kernel) rfl
theorem zt_618 : (.selects zr_Shelf zn_Shelf_keepCertificate zn_Shelf_keepCertificate : Cond) ∈ zw_T := zw_in (i := 618) (by decide +kernel) rfl
theorem zt_619 : (.code zn_Shelf_keepCertificate ze_Shelf_keepCertificate 5 (some .int) : Cond) ∈ zw_T := zw_in (i := 619) (by decide +kernel) rfl
theorem zt_620 : (.methodLink zr_Shelf 36 ⟨zr_Certificate, "noteSigner", "(ILCertificateVault$Certificate;)V"⟩ : Cond) ∈ zw_T := zw_in (i := 620) (by decide +kernel) rfl
theorem zt_621 : (.sameMethod zr_Certificate zr_Signed "noteSigner" "(ILCertificateVault$Certificate;)V" : Cond) ∈ zw_T := zw_in (i := 621) (by decide +kernel) rfl
theorem zt_622 : (.selects zr_Certificate ⟨zr_Certificate, "noteSigner", "(ILCertificateVault$Certificate;)V"⟩ zn_Signed_noteSigner : Cond) ∈ zw_T := zw_in (i := 622) (by decide +kernel) rfl
theorem zt_623 : (.methodLink zr_L 66 zn_V_certificate : Cond) ∈ zw_T := zw_in (i := 623) (by decide +kernel) rfl
theorem zt_624 : (.instanceMethod zn_V_certificate : Cond) ∈ zw_T := zw_in (i := 624) (by decide +kernel) rfl
theorem zt_625 : (.selects zr_V zn_V_certificate zn_V_certificate : Cond) ∈ zw_T := zw_in (i := 625) (by decide +kernel) rfl
theorem zt_626 : (.code zn_V_certificate ze_V_certificate 3 (some .long) : Cond) ∈ zw_T := zw_in (i := 626) (by decide +kernel) rfl
theorem zt_627 : (.methodLink zr_V 109 zn_Shelf_hasCertificate : Cond) ∈ zw_T := zw_in (i := 627) (by decide +kernel) rfl
theorem zt_628 : (.instanceMethod zn_Shelf_hasCertificate : Cond) ∈ zw_T := zw_in (i := 628) (by decide +kernel) rfl
theorem zt_629 : (.selects zr_Shelf zn_Shelf_hasCertificate zn_Shelf_hasCertificate : Cond) ∈ zw_T := zw_in (i := 629) (by decide +kernel) rfl
theorem zt_630 : (.code zn_Shelf_hasCertificate ze_Shelf_hasCertificate 2 (some .boolean) : Cond) ∈ zw_T := zw_in (i := 630) (by decide +kernel) rfl
theorem zt_631 : (.methodLink zr_V 116 zn_Certificate_tell : Cond) ∈ zw_T := zw_in (i := 631) (by decide +kernel) rfl
theorem zt_632 : (.instanceMethod zn_Certificate_tell : Cond) ∈ zw_T := zw_in (i := 632) (by decide +kernel) rfl
theorem zt_633 : (.selects zr_Certificate zn_Certificate_tell zn_Certificate_tell : Cond) ∈ zw_T := zw_in (i := 633) (by decide +kernel) rfl
theorem zt_634 : (.code zn_Certificate_tell ze_Certificate_tell 2 (some .long) : Cond) ∈ zw_T := zw_in (i := 634) (by decide +kernel) rfl
theorem zt_635 : (.constantLong zr_V 122 (-1) : Cond) ∈ zw_T := zw_in (i := 635) (by decide +kernel) rfl
theorem zt_636 : (.methodLink zr_L 71 zn_V_list : Cond) ∈ zw_T := zw_in (i := 636) (by decide +kernel) rfl
theorem zt_637 : (.instanceMethod zn_V_list : Cond) ∈ zw_T := zw_in (i := 637) (by decide +kernel) rfl
theorem zt_638 : (.selects zr_V zn_V_list zn_V_list : Cond) ∈ zw_T := zw_in (i := 638) (by decide +kernel) rfl
theorem zt_639 : (.code zn_V_list ze_V_list 3 (some .long) : Cond) ∈ zw_T := zw_in (i := 639) (by decide +kernel) rfl
theorem zt_640 : (.methodLink zr_V 128 zn_RevokedList_tell : Cond) ∈ zw_T := zw_in (i := 640) (by decide +kernel) rfl
theorem zt_641 : (.instanceMethod zn_RevokedList_tell : Cond) ∈ zw_T := zw_in (i := 641) (by decide +kernel) rfl
theorem zt_642 : (.selects zr_RevokedList zn_RevokedList_tell zn_RevokedList_tell : Cond) ∈ zw_T := zw_in (i := 642) (by decide +kernel) rfl
theorem zt_643 : (.code zn_RevokedList_tell ze_RevokedList_tell 2 (some .long) : Cond) ∈ zw_T := zw_in (i := 643) (by decide +kernel) rfl
theorem zt_644 : (.constantLong zr_RevokedList 38 (-1) : Cond) ∈ zw_T := zw_in (i := 644) (by decide +kernel) rfl
theorem zt_645 : (.methodLink zr_L 75 zn_V_validate : Cond) ∈ zw_T := zw_in (i := 645) (by decide +kernel) rfl
theorem zt_646 : (.instanceMethod zn_V_validate : Cond) ∈ zw_T := zw_in (i := 646) (by decide +kernel) rfl
theorem zt_647 : (.selects zr_V zn_V_validate zn_V_validate : Cond) ∈ zw_T := zw_in (i := 647) (by decide +kernel) rfl
theorem zt_648 : (.code zn_V_validate ze_V_validate 6 (some .int) : Cond) ∈ zw_T := zw_in (i := 648) (by decide +kernel) rfl
theorem zt_649 : (.classLink zr_V 131 zr_Search : Cond) ∈ zw_T := zw_in (i := 649) (by decide +kernel) rfl
theorem zt_650 : (.instantiable zr_Search 8 : Cond) ∈ zw_T := zw_in (i := 650) (by decide +kernel) rfl
theorem zt_651 : (.methodLink zr_V 133 zn_Search_init : Cond) ∈ zw_T := zw_in (i := 651) (by decide +kernel) rfl
theorem zt_652 : (.instanceMethod zn_Search_init : Cond) ∈ zw_T := zw_in (i := 652) (by decide +kernel) rfl
theorem zt_653 : (.code zn_Search_init ze_Search_init 6 none : Cond) ∈ zw_T := zw_in (i := 653) (by decide +kernel) rfl
theorem zt_654 : (.methodLink zr_Search 3 objectInit : Cond) ∈ zw_T := zw_in (i := 654) (by decide +kernel) rfl
theorem zt_655 : (.fieldLink zr_Search 25 "CertificateVault$Search" "shelf" "LCertificateVault$Shelf;" : Cond) ∈ zw_T := zw_in (i := 655) (by decide +kernel) rfl
theorem zt_656 : (.fieldLink zr_Search 29 "CertificateVault$Search" "time" "J" : Cond) ∈ zw_T := zw_in (i := 656) (by decide +kernel) rfl
theorem zt_657 : (.fieldLink zr_Search 33 "CertificateVault$Search" "depth" "I" : Cond) ∈ zw_T := zw_in (i := 657) (by decide +kernel) rfl
theorem zt_658 : (.fieldLink zr_Search 36 "CertificateVault$Search" "strictly" "Z" : Cond) ∈ zw_T := zw_in (i := 658) (by decide +kernel) rfl
theorem zt_659 : (.fieldLink zr_Search 9 "CertificateVault$Search" "part" "[I" : Cond) ∈ zw_T := zw_in (i := 659) (by decide +kernel) rfl
theorem zt_660 : (.fieldLink zr_Search 15 "CertificateVault$Search" "found" "I" : Cond) ∈ zw_T := zw_in (i := 660) (by decide +kernel) rfl
theorem zt_661 : (.fieldLink zr_Search 19 "CertificateVault$Search" "reason" "I" : Cond) ∈ zw_T := zw_in (i := 661) (by decide +kernel) rfl
theorem zt_662 : (.fieldLink zr_Search 22 "CertificateVault$Search" "tried" "I" : Cond) ∈ zw_T := zw_in (i := 662) (by decide +kernel) rfl
theorem zt_663 : (.fieldLink zr_V 143 "CertificateVault$Search" "tried" "I" : Cond) ∈ zw_T := zw_in (i := 663) (by decide +kernel) rfl
theorem zt_681 : (.methodLink zr_V 136 zn_Search_lookFor : Cond) ∈ zw_T := zw_in (i := 681) (by decide +kernel) rfl
theorem zt_682 : (.instanceMethod zn_Search_lookFor : Cond) ∈ zw_T := zw_in (i := 682) (by decide +kernel) rfl
theorem zt_683 : (.selects zr_Search zn_Search_lookFor zn_Search_lookFor : Cond) ∈ zw_T := zw_in (i := 683) (by decide +kernel) rfl
theorem zt_684 : (.code zn_Search_lookFor ze_Search_lookFor 2 (some .int) : Cond) ∈ zw_T := zw_in (i := 684) (by decide +kernel) rfl
theorem zt_685 : (.methodLink zr_Search 40 zn_Search_goOn : Cond) ∈ zw_T := zw_in (i := 685) (by decide +kernel) rfl
theorem zt_687 : (.instanceMethod zn_Search_goOn : Cond) ∈ zw_T := zw_in (i := 687) (by decide +kernel) rfl
theorem zt_688 : (.code zn_Search_goOn ze_Search_goOn 2 (some .boolean) : Cond) ∈ zw_T := zw_in (i := 688) (by decide +kernel) rfl
theorem zt_689 : (.methodLink zr_Search 44 zn_Search_inPart : Cond) ∈ zw_T := zw_in (i := 689) (by decide +kernel) rfl
theorem zt_691 : (.instanceMethod zn_Search_inPart : Cond) ∈ zw_T := zw_in (i := 691) (by decide +kernel) rfl
theorem zt_692 : (.code zn_Search_inPart ze_Search_inPart 2 (some (.object "CertificateVault$Certificate")) : Cond) ∈ zw_T := zw_in (i := 692) (by decide +kernel) rfl
theorem zt_693 : (.methodLink zr_Search 53 zn_Search_tryCandidate : Cond) ∈ zw_T := zw_in (i := 693) (by decide +kernel) rfl
theorem zt_695 : (.instanceMethod zn_Search_tryCandidate : Cond) ∈ zw_T := zw_in (i := 695) (by decide +kernel) rfl
theorem zt_696 : (.code zn_Search_tryCandidate ze_Search_tryCandidate 3 (some .boolean) : Cond) ∈ zw_T := zw_in (i := 696) (by decide +kernel) rfl
theorem zt_697 : (.methodLink zr_Search 79 zn_Search_reasonAgainst : Cond) ∈ zw_T := zw_in (i := 697) (by decide +kernel) rfl
theorem zt_699 : (.instanceMethod zn_Search_reasonAgainst : Cond) ∈ zw_T := zw_in (i := 699) (by decide +kernel) rfl
theorem zt_700 : (.code zn_Search_reasonAgainst ze_Search_reasonAgainst 5 (some .int) : Cond) ∈ zw_T := zw_in (i := 700) (by decide +kernel) rfl
theorem zt_701 : (.methodLink zr_Search 83 ⟨zr_Certificate, "isSignedBy", "(I)Z"⟩ : Cond) ∈ zw_T := zw_in (i := 701) (by decide +kernel) rfl
theorem zt_702 : (.sameMethod zr_Certificate zr_Signed "isSignedBy" "(I)Z" : Cond) ∈ zw_T := zw_in (i := 702) (by decide +kernel) rfl
theorem zt_704 : (.selects zr_Certificate ⟨zr_Certificate, "isSignedBy", "(I)Z"⟩ zn_Signed_isSignedBy : Cond) ∈ zw_T := zw_in (i := 704) (by decide +kernel) rfl
theorem zt_705 : (.instanceMethod zn_Signed_isSignedBy : Cond) ∈ zw_T := zw_in (i := 705) (by decide +kernel) rfl
theorem zt_706 : (.code zn_Signed_isSignedBy ze_Signed_isSignedBy 2 (some .boolean) : Cond) ∈ zw_T := zw_in (i := 706) (by decide +kernel) rfl
theorem zt_707 : (.methodLink zr_Search 86 ⟨zr_Certificate, "isTimely", "(J)Z"⟩ : Cond) ∈ zw_T := zw_in (i := 707) (by decide +kernel) rfl
theorem zt_708 : (.sameMethod zr_Certificate zr_Signed "isTimely" "(J)Z" : Cond) ∈ zw_T := zw_in (i := 708) (by decide +kernel) rfl
theorem zt_710 : (.selects zr_Certificate ⟨zr_Certificate, "isTimely", "(J)Z"⟩ zn_Signed_isTimely : Cond) ∈ zw_T := zw_in (i := 710) (by decide +kernel) rfl
theorem zt_711 : (.instanceMethod zn_Signed_isTimely : Cond) ∈ zw_T := zw_in (i := 711) (by decide +kernel) rfl
theorem zt_712 : (.code zn_Signed_isTimely ze_Signed_isTimely 3 (some .boolean) : Cond) ∈ zw_T := zw_in (i := 712) (by decide +kernel) rfl
theorem zt_713 : (.methodLink zr_Search 90 zn_Search_takeList : Cond) ∈ zw_T := zw_in (i := 713) (by decide +kernel) rfl
theorem zt_715 : (.instanceMethod zn_Search_takeList : Cond) ∈ zw_T := zw_in (i := 715) (by decide +kernel) rfl
theorem zt_716 : (.code zn_Search_takeList ze_Search_takeList 6 (some (.object "CertificateVault$RevokedList")) : Cond) ∈ zw_T := zw_in (i := 716) (by decide +kernel) rfl
theorem zt_717 : (.methodLink zr_Search 121 zn_Certificate_isFitFor : Cond) ∈ zw_T := zw_in (i := 717) (by decide +kernel) rfl
theorem zt_718 : (.instanceMethod zn_Certificate_isFitFor : Cond) ∈ zw_T := zw_in (i := 718) (by decide +kernel) rfl
theorem zt_719 : (.selects zr_Certificate zn_Certificate_isFitFor zn_Certificate_isFitFor : Cond) ∈ zw_T := zw_in (i := 719) (by decide +kernel) rfl
theorem zt_720 : (.code zn_Certificate_isFitFor ze_Certificate_isFitFor 2 (some .boolean) : Cond) ∈ zw_T := zw_in (i := 720) (by decide +kernel) rfl
theorem zt_721 : (.methodLink zr_Search 132 ⟨zr_RevokedList, "isTimely", "(J)Z"⟩ : Cond) ∈ zw_T := zw_in (i := 721) (by decide +kernel) rfl
theorem zt_722 : (.sameMethod zr_RevokedList zr_Signed "isTimely" "(J)Z" : Cond) ∈ zw_T := zw_in (i := 722) (by decide +kernel) rfl
theorem zt_723 : (.selects zr_RevokedList ⟨zr_RevokedList, "isTimely", "(J)Z"⟩ zn_Signed_isTimely : Cond) ∈ zw_T := zw_in (i := 723) (by decide +kernel) rfl
theorem zt_724 : (.methodLink zr_Search 133 ⟨zr_RevokedList, "isSignedBy", "(I)Z"⟩ : Cond) ∈ zw_T := zw_in (i := 724) (by decide +kernel) rfl
theorem zt_725 : (.sameMethod zr_RevokedList zr_Signed "isSignedBy" "(I)Z" : Cond) ∈ zw_T := zw_in (i := 725) (by decide +kernel) rfl
theorem zt_726 : (.selects zr_RevokedList ⟨zr_RevokedList, "isSignedBy", "(I)Z"⟩ zn_Signed_isSignedBy : Cond) ∈ zw_T := zw_in (i := 726) (by decide +kernel) rfl
theorem zt_727 : (.methodLink zr_Search 97 zn_RevokedList_revokes : Cond) ∈ zw_T := zw_in (i := 727) (by decide +kernel) rfl
theorem zt_728 : (.instanceMethod zn_RevokedList_revokes : Cond) ∈ zw_T := zw_in (i := 728) (by decide +kernel) rfl
theorem zt_729 : (.selects zr_RevokedList zn_RevokedList_revokes zn_RevokedList_revokes : Cond) ∈ zw_T := zw_in (i := 729) (by decide +kernel) rfl
theorem zt_730 : (.code zn_RevokedList_revokes ze_RevokedList_revokes 6 (some .boolean) : Cond) ∈ zw_T := zw_in (i := 730) (by decide +kernel) rfl
theorem zt_731 : (.methodLink zr_Search 103 zn_Search_isInRealms : Cond) ∈ zw_T := zw_in (i := 731) (by decide +kernel) rfl
theorem zt_733 : (.instanceMethod zn_Search_isInRealms : Cond) ∈ zw_T := zw_in (i := 733) (by decide +kernel) rfl
theorem zt_734 : (.code zn_Search_isInRealms ze_Search_isInRealms 7 (some .boolean) : Cond) ∈ zw_T := zw_in (i := 734) (by decide +kernel) rfl
theorem zt_735 : (.methodLink zr_Search 140 zn_Names_isWithin : Cond) ∈ zw_T := zw_in (i := 735) (by decide +kernel) rfl
theorem zt_736 : (.static zn_Names_isWithin : Cond) ∈ zw_T := zw_in (i := 736) (by decide +kernel) rfl
theorem zt_737 : (.code zn_Names_isWithin ze_Names_isWithin 8 (some .boolean) : Cond) ∈ zw_T := zw_in (i := 737) (by decide +kernel) rfl
theorem zt_738 : (.constantLong zr_Names 9 (27) : Cond) ∈ zw_T := zw_in (i := 738) (by decide +kernel) rfl
theorem zt_739 : (.constantLong zr_Search 115 (-1) : Cond) ∈ zw_T := zw_in (i := 739) (by decide +kernel) rfl
theorem zt_740 : (.methodLink zr_Search 117 zn_Search_countBefore : Cond) ∈ zw_T := zw_in (i := 740) (by decide +kernel) rfl
theorem zt_742 : (.instanceMethod zn_Search_countBefore : Cond) ∈ zw_T := zw_in (i := 742) (by decide +kernel) rfl
theorem zt_743 : (.code zn_Search_countBefore ze_Search_countBefore 4 (some .int) : Cond) ∈ zw_T := zw_in (i := 743) (by decide +kernel) rfl
theorem zt_744 : (.methodLink zr_Search 148 zn_Certificate_isSelfIssued : Cond) ∈ zw_T := zw_in (i := 744) (by decide +kernel) rfl
theorem zt_745 : (.instanceMethod zn_Certificate_isSelfIssued : Cond) ∈ zw_T := zw_in (i := 745) (by decide +kernel) rfl
theorem zt_746 : (.selects zr_Certificate zn_Certificate_isSelfIssued zn_Certificate_isSelfIssued : Cond) ∈ zw_T := zw_in (i := 746) (by decide +kernel) rfl
theorem zt_747 : (.code zn_Certificate_isSelfIssued ze_Certificate_isSelfIssued 1 (some .boolean) : Cond) ∈ zw_T := zw_in (i := 747) (by decide +kernel) rfl
theorem zt_748 : (.methodLink zr_Search 56 zn_Search_goThrough : Cond) ∈ zw_T := zw_in (i := 748) (by decide +kernel) rfl
theorem zt_750 : (.instanceMethod zn_Search_goThrough : Cond) ∈ zw_T := zw_in (i := 750) (by decide +kernel) rfl
theorem zt_751 : (.code zn_Search_goThrough ze_Search_goThrough 7 (some .boolean) : Cond) ∈ zw_T := zw_in (i := 751) (by decide +kernel) rfl
theorem zt_752 : (.methodLink zr_Search 75 zn_Search_isInPart : Cond) ∈ zw_T := zw_in (i := 752) (by decide +kernel) rfl
theorem zt_754 : (.instanceMethod zn_Search_isInPart : Cond) ∈ zw_T := zw_in (i := 754) (by decide +kernel) rfl
theorem zt_755 : (.code zn_Search_isInPart ze_Search_isInPart 4 (some .boolean) : Cond) ∈ zw_T := zw_in (i := 755) (by decide +kernel) rfl
theorem zt_756 : (.methodLink zr_L 80 zn_V_chain : Cond) ∈ zw_T := zw_in (i := 756) (by decide +kernel) rfl
theorem zt_757 : (.instanceMethod zn_V_chain : Cond) ∈ zw_T := zw_in (i := 757) (by decide +kernel) rfl
theorem zt_758 : (.selects zr_V zn_V_chain zn_V_chain : Cond) ∈ zw_T := zw_in (i := 758) (by decide +kernel) rfl
theorem zt_759 : (.code zn_V_chain ze_V_chain 2 (some .int) : Cond) ∈ zw_T := zw_in (i := 759) (by decide +kernel) rfl
theorem zt_760 : (.methodLink zr_V 140 zn_Search_foundAt : Cond) ∈ zw_T := zw_in (i := 760) (by decide +kernel) rfl
theorem zt_761 : (.instanceMethod zn_Search_foundAt : Cond) ∈ zw_T := zw_in (i := 761) (by decide +kernel) rfl
theorem zt_762 : (.selects zr_Search zn_Search_foundAt zn_Search_foundAt : Cond) ∈ zw_T := zw_in (i := 762) (by decide +kernel) rfl
theorem zt_763 : (.code zn_Search_foundAt ze_Search_foundAt 2 (some .int) : Cond) ∈ zw_T := zw_in (i := 763) (by decide +kernel) rfl
theorem zt_764 : (.methodLink zr_L 84 zn_V_candidates : Cond) ∈ zw_T := zw_in (i := 764) (by decide +kernel) rfl
theorem zt_765 : (.instanceMethod zn_V_candidates : Cond) ∈ zw_T := zw_in (i := 765) (by decide +kernel) rfl
theorem zt_766 : (.selects zr_V zn_V_candidates zn_V_candidates : Cond) ∈ zw_T := zw_in (i := 766) (by decide +kernel) rfl
theorem zt_767 : (.code zn_V_candidates ze_V_candidates 1 (some .int) : Cond) ∈ zw_T := zw_in (i := 767) (by decide +kernel) rfl
theorem zt_768 : (.methodLink zr_L 88 zn_V_sign : Cond) ∈ zw_T := zw_in (i := 768) (by decide +kernel) rfl
theorem zt_769 : (.instanceMethod zn_V_sign : Cond) ∈ zw_T := zw_in (i := 769) (by decide +kernel) rfl
theorem zt_770 : (.selects zr_V zn_V_sign zn_V_sign : Cond) ∈ zw_T := zw_in (i := 770) (by decide +kernel) rfl
theorem zt_771 : (.code zn_V_sign ze_V_sign 3 (some .long) : Cond) ∈ zw_T := zw_in (i := 771) (by decide +kernel) rfl
theorem zt_772 : (.methodLink zr_V 146 zn_Numbers_isKey : Cond) ∈ zw_T := zw_in (i := 772) (by decide +kernel) rfl
theorem zt_773 : (.methodLink zr_V 152 zn_Numbers_signature : Cond) ∈ zw_T := zw_in (i := 773) (by decide +kernel) rfl
theorem zt_774 : (.methodLink zr_L 92 zn_V_good : Cond) ∈ zw_T := zw_in (i := 774) (by decide +kernel) rfl
theorem zt_775 : (.instanceMethod zn_V_good : Cond) ∈ zw_T := zw_in (i := 775) (by decide +kernel) rfl
theorem zt_776 : (.selects zr_V zn_V_good zn_V_good : Cond) ∈ zw_T := zw_in (i := 776) (by decide +kernel) rfl
theorem zt_777 : (.code zn_V_good ze_V_good 8 (some .boolean) : Cond) ∈ zw_T := zw_in (i := 777) (by decide +kernel) rfl
theorem zt_778 : (.methodLink zr_V 156 zn_Numbers_isGood : Cond) ∈ zw_T := zw_in (i := 778) (by decide +kernel) rfl
theorem zt_779 : (.classLink zr_L 10 zr_M : Cond) ∈ zw_T := zw_in (i := 779) (by decide +kernel) rfl
theorem zt_780 : (.instantiable zr_M 27 : Cond) ∈ zw_T := zw_in (i := 780) (by decide +kernel) rfl
theorem zt_781 : (.methodLink zr_L 12 zn_M_init : Cond) ∈ zw_T := zw_in (i := 781) (by decide +kernel) rfl
theorem zt_782 : (.instanceMethod zn_M_init : Cond) ∈ zw_T := zw_in (i := 782) (by decide +kernel) rfl
theorem zt_783 : (.code zn_M_init ze_M_init 1 none : Cond) ∈ zw_T := zw_in (i := 783) (by decide +kernel) rfl
theorem zt_784 : (.methodLink zr_M 1 objectInit : Cond) ∈ zw_T := zw_in (i := 784) (by decide +kernel) rfl
theorem zt_785 : (.constantLong zr_M 23 (1200000049400000287) : Cond) ∈ zw_T := zw_in (i := 785) (by decide +kernel) rfl
theorem zt_786 : (.constantLong zr_M 25 (1430000491000037023) : Cond) ∈ zw_T := zw_in (i := 786) (by decide +kernel) rfl
theorem zt_787 : (.constantLong zr_M 27 (1536351190290809371) : Cond) ∈ zw_T := zw_in (i := 787) (by decide +kernel) rfl
theorem zt_788 : (.constantLong zr_M 29 (1728395075795061493) : Cond) ∈ zw_T := zw_in (i := 788) (by decide +kernel) rfl
theorem zt_789 : (.constantLong zr_M 31 (1697785988597898509) : Cond) ∈ zw_T := zw_in (i := 789) (by decide +kernel) rfl
theorem zt_790 : (.constantLong zr_M 33 (1597490175708938519) : Cond) ∈ zw_T := zw_in (i := 790) (by decide +kernel) rfl
theorem zt_791 : (.constantLong zr_M 38 (3) : Cond) ∈ zw_T := zw_in (i := 791) (by decide +kernel) rfl
theorem zt_792 : (.constantLong zr_M 40 (17) : Cond) ∈ zw_T := zw_in (i := 792) (by decide +kernel) rfl
theorem zt_793 : (.constantLong zr_M 42 (257) : Cond) ∈ zw_T := zw_in (i := 793) (by decide +kernel) rfl
theorem zt_794 : (.constantLong zr_M 44 (65537) : Cond) ∈ zw_T := zw_in (i := 794) (by decide +kernel) rfl
theorem zt_795 : (.constantLong zr_M 46 (5) : Cond) ∈ zw_T := zw_in (i := 795) (by decide +kernel) rfl
theorem zt_796 : (.constantLong zr_M 48 (11) : Cond) ∈ zw_T := zw_in (i := 796) (by decide +kernel) rfl
theorem zt_797 : (.constantLong zr_M 53 (800000031466666827) : Cond) ∈ zw_T := zw_in (i := 797) (by decide +kernel) rfl
theorem zt_798 : (.constantLong zr_M 55 (84117675800002153) : Cond) ∈ zw_T := zw_in (i := 798) (by decide +kernel) rfl
theorem zt_799 : (.constantLong zr_M 57 (579867958021467505) : Cond) ∈ zw_T := zw_in (i := 799) (by decide +kernel) rfl
theorem zt_800 : (.constantLong zr_M 59 (1604812069470515813) : Cond) ∈ zw_T := zw_in (i := 800) (by decide +kernel) rfl
theorem zt_801 : (.constantLong zr_M 61 (339557197186246361) : Cond) ∈ zw_T := zw_in (i := 801) (by decide +kernel) rfl
theorem zt_802 : (.constantLong zr_M 63 (1161811034953791779) : Cond) ∈ zw_T := zw_in (i := 802) (by decide +kernel) rfl
theorem zt_803 : (.constantLong zr_M 98 (1000) : Cond) ∈ zw_T := zw_in (i := 803) (by decide +kernel) rfl
theorem zt_804 : (.constantLong zr_M 100 (-1) : Cond) ∈ zw_T := zw_in (i := 804) (by decide +kernel) rfl
theorem zt_805 : (.fieldLink zr_M 7 "CertificateVaultModel" "draft" "[I" : Cond) ∈ zw_T := zw_in (i := 805) (by decide +kernel) rfl
theorem zt_806 : (.fieldLink zr_M 141 "CertificateVaultModel" "size" "I" : Cond) ∈ zw_T := zw_in (i := 806) (by decide +kernel) rfl
theorem zt_807 : (.fieldLink zr_M 13 "CertificateVaultModel" "field" "[J" : Cond) ∈ zw_T := zw_in (i := 807) (by decide +kernel) rfl
theorem zt_808 : (.fieldLink zr_M 153 "CertificateVaultModel" "marked" "I" : Cond) ∈ zw_T := zw_in (i := 808) (by decide +kernel) rfl
theorem zt_809 : (.fieldLink zr_M 17 "CertificateVaultModel" "serials" "[J" : Cond) ∈ zw_T := zw_in (i := 809) (by decide +kernel) rfl
theorem zt_810 : (.fieldLink zr_M 20 "CertificateVaultModel" "dates" "[J" : Cond) ∈ zw_T := zw_in (i := 810) (by decide +kernel) rfl
theorem zt_811 : (.fieldLink zr_M 35 "CertificateVaultModel" "modulus" "[J" : Cond) ∈ zw_T := zw_in (i := 811) (by decide +kernel) rfl
theorem zt_812 : (.fieldLink zr_M 50 "CertificateVaultModel" "exponent" "[J" : Cond) ∈ zw_T := zw_in (i := 812) (by decide +kernel) rfl
theorem zt_813 : (.fieldLink zr_M 65 "CertificateVaultModel" "secret" "[J" : Cond) ∈ zw_T := zw_in (i := 813) (by decide +kernel) rfl
theorem zt_814 : (.fieldLink zr_M 197 "CertificateVaultModel" "at" "I" : Cond) ∈ zw_T := zw_in (i := 814) (by decide +kernel) rfl
theorem zt_815 : (.fieldLink zr_M 194 "CertificateVaultModel" "fault" "I" : Cond) ∈ zw_T := zw_in (i := 815) (by decide +kernel) rfl
theorem zt_816 : (.fieldLink zr_M 68 "CertificateVaultModel" "read" "[J" : Cond) ∈ zw_T := zw_in (i := 816) (by decide +kernel) rfl
theorem zt_817 : (.fieldLink zr_M 236 "CertificateVaultModel" "entries" "I" : Cond) ∈ zw_T := zw_in (i := 817) (by decide +kernel) rfl
theorem zt_818 : (.fieldLink zr_M 71 "CertificateVaultModel" "entrySerial" "[J" : Cond) ∈ zw_T := zw_in (i := 818) (by decide +kernel) rfl
theorem zt_819 : (.fieldLink zr_M 74 "CertificateVaultModel" "entryDate" "[J" : Cond) ∈ zw_T := zw_in (i := 819) (by decide +kernel) rfl
theorem zt_820 : (.fieldLink zr_M 248 "CertificateVaultModel" "certificates" "I" : Cond) ∈ zw_T := zw_in (i := 820) (by decide +kernel) rfl
theorem zt_821 : (.fieldLink zr_M 77 "CertificateVaultModel" "stored" "[J" : Cond) ∈ zw_T := zw_in (i := 821) (by decide +kernel) rfl
theorem zt_822 : (.fieldLink zr_M 245 "CertificateVaultModel" "lists" "I" : Cond) ∈ zw_T := zw_in (i := 822) (by decide +kernel) rfl
theorem zt_823 : (.fieldLink zr_M 80 "CertificateVaultModel" "listed" "[J" : Cond) ∈ zw_T := zw_in (i := 823) (by decide +kernel) rfl
theorem zt_824 : (.fieldLink zr_M 83 "CertificateVaultModel" "revoked" "[J" : Cond) ∈ zw_T := zw_in (i := 824) (by decide +kernel) rfl
theorem zt_825 : (.fieldLink zr_M 86 "CertificateVaultModel" "since" "[J" : Cond) ∈ zw_T := zw_in (i := 825) (by decide +kernel) rfl
theorem zt_826 : (.fieldLink zr_M 89 "CertificateVaultModel" "part" "[I" : Cond) ∈ zw_T := zw_in (i := 826) (by decide +kernel) rfl
theorem zt_827 : (.fieldLink zr_M 92 "CertificateVaultModel" "looked" "[I" : Cond) ∈ zw_T := zw_in (i := 827) (by decide +kernel) rfl
theorem zt_828 : (.fieldLink zr_M 95 "CertificateVaultModel" "found" "[I" : Cond) ∈ zw_T := zw_in (i := 828) (by decide +kernel) rfl
theorem zt_829 : (.fieldLink zr_M 313 "CertificateVaultModel" "length" "I" : Cond) ∈ zw_T := zw_in (i := 829) (by decide +kernel) rfl
theorem zt_830 : (.fieldLink zr_M 299 "CertificateVaultModel" "candidates" "I" : Cond) ∈ zw_T := zw_in (i := 830) (by decide +kernel) rfl
theorem zt_831 : (.fieldLink zr_M 292 "CertificateVaultModel" "reason" "I" : Cond) ∈ zw_T := zw_in (i := 831) (by decide +kernel) rfl
theorem zt_887 : (.methodLink zr_L 91 zn_M_sign : Cond) ∈ zw_T := zw_in (i := 887) (by decide +kernel) rfl
theorem zt_888 : (.instanceMethod zn_M_sign : Cond) ∈ zw_T := zw_in (i := 888) (by decide +kernel) rfl
theorem zt_889 : (.selects zr_M zn_M_sign zn_M_sign : Cond) ∈ zw_T := zw_in (i := 889) (by decide +kernel) rfl
theorem zt_890 : (.code zn_M_sign ze_M_sign 5 (some .long) : Cond) ∈ zw_T := zw_in (i := 890) (by decide +kernel) rfl
theorem zt_891 : (.methodLink zr_M 112 zn_M_block : Cond) ∈ zw_T := zw_in (i := 891) (by decide +kernel) rfl
theorem zt_892 : (.static zn_M_block : Cond) ∈ zw_T := zw_in (i := 892) (by decide +kernel) rfl
theorem zt_893 : (.code zn_M_block ze_M_block 1 (some .long) : Cond) ∈ zw_T := zw_in (i := 893) (by decide +kernel) rfl
theorem zt_894 : (.constantLong zr_M 106 (561850441793536) : Cond) ∈ zw_T := zw_in (i := 894) (by decide +kernel) rfl
theorem zt_895 : (.constantLong zr_M 108 (4294967295) : Cond) ∈ zw_T := zw_in (i := 895) (by decide +kernel) rfl
theorem zt_896 : (.methodLink zr_M 116 zn_M_power : Cond) ∈ zw_T := zw_in (i := 896) (by decide +kernel) rfl
theorem zt_897 : (.static zn_M_power : Cond) ∈ zw_T := zw_in (i := 897) (by decide +kernel) rfl
theorem zt_898 : (.code zn_M_power ze_M_power 12 (some .long) : Cond) ∈ zw_T := zw_in (i := 898) (by decide +kernel) rfl
theorem zt_899 : (.methodLink zr_M 102 zn_M_times : Cond) ∈ zw_T := zw_in (i := 899) (by decide +kernel) rfl
theorem zt_900 : (.static zn_M_times : Cond) ∈ zw_T := zw_in (i := 900) (by decide +kernel) rfl
theorem zt_901 : (.code zn_M_times ze_M_times 12 (some .long) : Cond) ∈ zw_T := zw_in (i := 901) (by decide +kernel) rfl
theorem zt_902 : (.methodLink zr_L 96 zn_M_good : Cond) ∈ zw_T := zw_in (i := 902) (by decide +kernel) rfl
theorem zt_903 : (.instanceMethod zn_M_good : Cond) ∈ zw_T := zw_in (i := 903) (by decide +kernel) rfl
theorem zt_904 : (.selects zr_M zn_M_good zn_M_good : Cond) ∈ zw_T := zw_in (i := 904) (by decide +kernel) rfl
theorem zt_905 : (.code zn_M_good ze_M_good 10 (some .boolean) : Cond) ∈ zw_T := zw_in (i := 905) (by decide +kernel) rfl
theorem zt_906 : (.constantLong zr_M 119 (2) : Cond) ∈ zw_T := zw_in (i := 906) (by decide +kernel) rfl
theorem zt_907 : (.constantLong zr_M 121 (144115188075855872) : Cond) ∈ zw_T := zw_in (i := 907) (by decide +kernel) rfl
theorem zt_908 : (.constantLong zr_M 123 (4611686018427387903) : Cond) ∈ zw_T := zw_in (i := 908) (by decide +kernel) rfl
theorem zt_909 : (.methodLink zr_M 125 zn_M_in : Cond) ∈ zw_T := zw_in (i := 909) (by decide +kernel) rfl
theorem zt_910 : (.static zn_M_in : Cond) ∈ zw_T := zw_in (i := 910) (by decide +kernel) rfl
theorem zt_911 : (.code zn_M_in ze_M_in 6 (some .boolean) : Cond) ∈ zw_T := zw_in (i := 911) (by decide +kernel) rfl
theorem zt_912 : (.constantLong zr_M 129 (2147483647) : Cond) ∈ zw_T := zw_in (i := 912) (by decide +kernel) rfl
theorem zt_913 : (.methodLink zr_L 17 zn_M_put : Cond) ∈ zw_T := zw_in (i := 913) (by decide +kernel) rfl
theorem zt_914 : (.instanceMethod zn_M_put : Cond) ∈ zw_T := zw_in (i := 914) (by decide +kernel) rfl
theorem zt_915 : (.selects zr_M zn_M_put zn_M_put : Cond) ∈ zw_T := zw_in (i := 915) (by decide +kernel) rfl
theorem zt_916 : (.code zn_M_put ze_M_put 2 (some .boolean) : Cond) ∈ zw_T := zw_in (i := 916) (by decide +kernel) rfl
theorem zt_917 : (.constantLong zr_M 139 (255) : Cond) ∈ zw_T := zw_in (i := 917) (by decide +kernel) rfl
theorem zt_918 : (.methodLink zr_L 22 zn_M_poke : Cond) ∈ zw_T := zw_in (i := 918) (by decide +kernel) rfl
theorem zt_919 : (.instanceMethod zn_M_poke : Cond) ∈ zw_T := zw_in (i := 919) (by decide +kernel) rfl
theorem zt_920 : (.selects zr_M zn_M_poke zn_M_poke : Cond) ∈ zw_T := zw_in (i := 920) (by decide +kernel) rfl
theorem zt_921 : (.code zn_M_poke ze_M_poke 3 (some .boolean) : Cond) ∈ zw_T := zw_in (i := 921) (by decide +kernel) rfl
theorem zt_922 : (.methodLink zr_L 26 zn_M_clear : Cond) ∈ zw_T := zw_in (i := 922) (by decide +kernel) rfl
theorem zt_923 : (.instanceMethod zn_M_clear : Cond) ∈ zw_T := zw_in (i := 923) (by decide +kernel) rfl
theorem zt_924 : (.selects zr_M zn_M_clear zn_M_clear : Cond) ∈ zw_T := zw_in (i := 924) (by decide +kernel) rfl
theorem zt_925 : (.code zn_M_clear ze_M_clear 1 none : Cond) ∈ zw_T := zw_in (i := 925) (by decide +kernel) rfl
theorem zt_926 : (.methodLink zr_L 31 zn_M_at : Cond) ∈ zw_T := zw_in (i := 926) (by decide +kernel) rfl
theorem zt_927 : (.instanceMethod zn_M_at : Cond) ∈ zw_T := zw_in (i := 927) (by decide +kernel) rfl
theorem zt_928 : (.selects zr_M zn_M_at zn_M_at : Cond) ∈ zw_T := zw_in (i := 928) (by decide +kernel) rfl
theorem zt_929 : (.code zn_M_at ze_M_at 2 (some .int) : Cond) ∈ zw_T := zw_in (i := 929) (by decide +kernel) rfl
theorem zt_930 : (.methodLink zr_L 38 zn_M_set : Cond) ∈ zw_T := zw_in (i := 930) (by decide +kernel) rfl
theorem zt_931 : (.instanceMethod zn_M_set : Cond) ∈ zw_T := zw_in (i := 931) (by decide +kernel) rfl
theorem zt_932 : (.selects zr_M zn_M_set zn_M_set : Cond) ∈ zw_T := zw_in (i := 932) (by decide +kernel) rfl
theorem zt_933 : (.code zn_M_set ze_M_set 5 (some .boolean) : Cond) ∈ zw_T := zw_in (i := 933) (by decide +kernel) rfl
theorem zt_934 : (.methodLink zr_M 145 zn_M_isName : Cond) ∈ zw_T := zw_in (i := 934) (by decide +kernel) rfl
theorem zt_935 : (.static zn_M_isName : Cond) ∈ zw_T := zw_in (i := 935) (by decide +kernel) rfl
theorem zt_936 : (.code zn_M_isName ze_M_isName 8 (some .boolean) : Cond) ∈ zw_T := zw_in (i := 936) (by decide +kernel) rfl
theorem zt_937 : (.methodLink zr_M 133 zn_M_letters : Cond) ∈ zw_T := zw_in (i := 937) (by decide +kernel) rfl
theorem zt_938 : (.static zn_M_letters : Cond) ∈ zw_T := zw_in (i := 938) (by decide +kernel) rfl
theorem zt_939 : (.code zn_M_letters ze_M_letters 3 (some .int) : Cond) ∈ zw_T := zw_in (i := 939) (by decide +kernel) rfl
theorem zt_940 : (.constantLong zr_M 131 (31) : Cond) ∈ zw_T := zw_in (i := 940) (by decide +kernel) rfl
theorem zt_941 : (.constantLong zr_M 137 (27) : Cond) ∈ zw_T := zw_in (i := 941) (by decide +kernel) rfl
theorem zt_942 : (.constantLong zr_M 149 (9) : Cond) ∈ zw_T := zw_in (i := 942) (by decide +kernel) rfl
theorem zt_943 : (.constantLong zr_M 151 (7) : Cond) ∈ zw_T := zw_in (i := 943) (by decide +kernel) rfl
theorem zt_944 : (.methodLink zr_L 43 zn_M_revoke : Cond) ∈ zw_T := zw_in (i := 944) (by decide +kernel) rfl
theorem zt_945 : (.instanceMethod zn_M_revoke : Cond) ∈ zw_T := zw_in (i := 945) (by decide +kernel) rfl
theorem zt_946 : (.selects zr_M zn_M_revoke zn_M_revoke : Cond) ∈ zw_T := zw_in (i := 946) (by decide +kernel) rfl
theorem zt_947 : (.code zn_M_revoke ze_M_revoke 5 (some .boolean) : Cond) ∈ zw_T := zw_in (i := 947) (by decide +kernel) rfl
theorem zt_948 : (.methodLink zr_L 47 zn_M_forgive : Cond) ∈ zw_T := zw_in (i := 948) (by decide +kernel) rfl
theorem zt_949 : (.instanceMethod zn_M_forgive : Cond) ∈ zw_T := zw_in (i := 949) (by decide +kernel) rfl
theorem zt_950 : (.selects zr_M zn_M_forgive zn_M_forgive : Cond) ∈ zw_T := zw_in (i := 950) (by decide +kernel) rfl
theorem zt_951 : (.code zn_M_forgive ze_M_forgive 1 none : Cond) ∈ zw_T := zw_in (i := 951) (by decide +kernel) rfl
theorem zt_952 : (.methodLink zr_L 52 zn_M_compose : Cond) ∈ zw_T := zw_in (i := 952) (by decide +kernel) rfl
theorem zt_953 : (.instanceMethod zn_M_compose : Cond) ∈ zw_T := zw_in (i := 953) (by decide +kernel) rfl
theorem zt_954 : (.selects zr_M zn_M_compose zn_M_compose : Cond) ∈ zw_T := zw_in (i := 954) (by decide +kernel) rfl
theorem zt_955 : (.code zn_M_compose ze_M_compose 1 (some .int) : Cond) ∈ zw_T := zw_in (i := 955) (by decide +kernel) rfl
theorem zt_956 : (.methodLink zr_M 172 zn_M_integer : Cond) ∈ zw_T := zw_in (i := 956) (by decide +kernel) rfl
theorem zt_958 : (.instanceMethod zn_M_integer : Cond) ∈ zw_T := zw_in (i := 958) (by decide +kernel) rfl
theorem zt_959 : (.code zn_M_integer ze_M_integer 5 none : Cond) ∈ zw_T := zw_in (i := 959) (by decide +kernel) rfl
theorem zt_960 : (.methodLink zr_M 156 zn_M_add : Cond) ∈ zw_T := zw_in (i := 960) (by decide +kernel) rfl
theorem zt_962 : (.instanceMethod zn_M_add : Cond) ∈ zw_T := zw_in (i := 962) (by decide +kernel) rfl
theorem zt_963 : (.code zn_M_add ze_M_add 2 none : Cond) ∈ zw_T := zw_in (i := 963) (by decide +kernel) rfl
theorem zt_964 : (.methodLink zr_M 183 zn_M_name : Cond) ∈ zw_T := zw_in (i := 964) (by decide +kernel) rfl
theorem zt_966 : (.instanceMethod zn_M_name : Cond) ∈ zw_T := zw_in (i := 966) (by decide +kernel) rfl
theorem zt_967 : (.code zn_M_name ze_M_name 7 none : Cond) ∈ zw_T := zw_in (i := 967) (by decide +kernel) rfl
theorem zt_968 : (.methodLink zr_M 187 zn_M_extensions : Cond) ∈ zw_T := zw_in (i := 968) (by decide +kernel) rfl
theorem zt_970 : (.instanceMethod zn_M_extensions : Cond) ∈ zw_T := zw_in (i := 970) (by decide +kernel) rfl
theorem zt_971 : (.code zn_M_extensions ze_M_extensions 4 none : Cond) ∈ zw_T := zw_in (i := 971) (by decide +kernel) rfl
theorem zt_972 : (.methodLink zr_M 179 zn_M_open : Cond) ∈ zw_T := zw_in (i := 972) (by decide +kernel) rfl
theorem zt_974 : (.instanceMethod zn_M_open : Cond) ∈ zw_T := zw_in (i := 974) (by decide +kernel) rfl
theorem zt_975 : (.code zn_M_open ze_M_open 4 (some .int) : Cond) ∈ zw_T := zw_in (i := 975) (by decide +kernel) rfl
theorem zt_976 : (.methodLink zr_M 176 zn_M_yes : Cond) ∈ zw_T := zw_in (i := 976) (by decide +kernel) rfl
theorem zt_978 : (.instanceMethod zn_M_yes : Cond) ∈ zw_T := zw_in (i := 978) (by decide +kernel) rfl
theorem zt_979 : (.code zn_M_yes ze_M_yes 1 none : Cond) ∈ zw_T := zw_in (i := 979) (by decide +kernel) rfl
theorem zt_980 : (.methodLink zr_M 160 zn_M_wrap : Cond) ∈ zw_T := zw_in (i := 980) (by decide +kernel) rfl
theorem zt_982 : (.instanceMethod zn_M_wrap : Cond) ∈ zw_T := zw_in (i := 982) (by decide +kernel) rfl
theorem zt_983 : (.code zn_M_wrap ze_M_wrap 6 none : Cond) ∈ zw_T := zw_in (i := 983) (by decide +kernel) rfl
theorem zt_984 : (.methodLink zr_M 190 zn_M_signed : Cond) ∈ zw_T := zw_in (i := 984) (by decide +kernel) rfl
theorem zt_986 : (.instanceMethod zn_M_signed : Cond) ∈ zw_T := zw_in (i := 986) (by decide +kernel) rfl
theorem zt_987 : (.code zn_M_signed ze_M_signed 5 (some .int) : Cond) ∈ zw_T := zw_in (i := 987) (by decide +kernel) rfl
theorem zt_988 : (.methodLink zr_M 164 zn_M_hash : Cond) ∈ zw_T := zw_in (i := 988) (by decide +kernel) rfl
theorem zt_990 : (.instanceMethod zn_M_hash : Cond) ∈ zw_T := zw_in (i := 990) (by decide +kernel) rfl
theorem zt_991 : (.code zn_M_hash ze_M_hash 5 (some .int) : Cond) ∈ zw_T := zw_in (i := 991) (by decide +kernel) rfl
theorem zt_992 : (.constant zr_M 110 (-2128831035) : Cond) ∈ zw_T := zw_in (i := 992) (by decide +kernel) rfl
theorem zt_993 : (.constant zr_M 111 (16777619) : Cond) ∈ zw_T := zw_in (i := 993) (by decide +kernel) rfl
theorem zt_994 : (.methodLink zr_M 168 zn_M_sign : Cond) ∈ zw_T := zw_in (i := 994) (by decide +kernel) rfl
theorem zt_995 : (.methodLink zr_L 56 zn_M_composeList : Cond) ∈ zw_T := zw_in (i := 995) (by decide +kernel) rfl
theorem zt_996 : (.instanceMethod zn_M_composeList : Cond) ∈ zw_T := zw_in (i := 996) (by decide +kernel) rfl
theorem zt_997 : (.selects zr_M zn_M_composeList zn_M_composeList : Cond) ∈ zw_T := zw_in (i := 997) (by decide +kernel) rfl
theorem zt_998 : (.code zn_M_composeList ze_M_composeList 4 (some .int) : Cond) ∈ zw_T := zw_in (i := 998) (by decide +kernel) rfl
theorem zt_999 : (.methodLink zr_L 61 zn_M_check : Cond) ∈ zw_T := zw_in (i := 999) (by decide +kernel) rfl
theorem zt_1000 : (.instanceMethod zn_M_check : Cond) ∈ zw_T := zw_in (i := 1000) (by decide +kernel) rfl
theorem zt_1001 : (.selects zr_M zn_M_check zn_M_check : Cond) ∈ zw_T := zw_in (i := 1001) (by decide +kernel) rfl
theorem zt_1002 : (.code zn_M_check ze_M_check 2 (some .int) : Cond) ∈ zw_T := zw_in (i := 1002) (by decide +kernel) rfl
theorem zt_1003 : (.methodLink zr_M 239 zn_M_readCertificate : Cond) ∈ zw_T := zw_in (i := 1003) (by decide +kernel) rfl
theorem zt_1005 : (.instanceMethod zn_M_readCertificate : Cond) ∈ zw_T := zw_in (i := 1005) (by decide +kernel) rfl
theorem zt_1006 : (.code zn_M_readCertificate ze_M_readCertificate 8 none : Cond) ∈ zw_T := zw_in (i := 1006) (by decide +kernel) rfl
theorem zt_1007 : (.methodLink zr_M 203 zn_M_head : Cond) ∈ zw_T := zw_in (i := 1007) (by decide +kernel) rfl
theorem zt_1009 : (.instanceMethod zn_M_head : Cond) ∈ zw_T := zw_in (i := 1009) (by decide +kernel) rfl
theorem zt_1010 : (.code zn_M_head ze_M_head 6 (some .int) : Cond) ∈ zw_T := zw_in (i := 1010) (by decide +kernel) rfl
theorem zt_1011 : (.methodLink zr_M 200 zn_M_fails : Cond) ∈ zw_T := zw_in (i := 1011) (by decide +kernel) rfl
theorem zt_1013 : (.instanceMethod zn_M_fails : Cond) ∈ zw_T := zw_in (i := 1013) (by decide +kernel) rfl
theorem zt_1014 : (.code zn_M_fails ze_M_fails 3 none : Cond) ∈ zw_T := zw_in (i := 1014) (by decide +kernel) rfl
theorem zt_1015 : (.methodLink zr_M 217 zn_M_number : Cond) ∈ zw_T := zw_in (i := 1015) (by decide +kernel) rfl
theorem zt_1017 : (.instanceMethod zn_M_number : Cond) ∈ zw_T := zw_in (i := 1017) (by decide +kernel) rfl
theorem zt_1018 : (.code zn_M_number ze_M_number 9 (some .long) : Cond) ∈ zw_T := zw_in (i := 1018) (by decide +kernel) rfl
theorem zt_1019 : (.constantLong zr_M 206 (8) : Cond) ∈ zw_T := zw_in (i := 1019) (by decide +kernel) rfl
theorem zt_1020 : (.methodLink zr_M 223 zn_M_title : Cond) ∈ zw_T := zw_in (i := 1020) (by decide +kernel) rfl
theorem zt_1022 : (.instanceMethod zn_M_title : Cond) ∈ zw_T := zw_in (i := 1022) (by decide +kernel) rfl
theorem zt_1023 : (.code zn_M_title ze_M_title 10 (some .long) : Cond) ∈ zw_T := zw_in (i := 1023) (by decide +kernel) rfl
theorem zt_1024 : (.methodLink zr_M 208 zn_M_next : Cond) ∈ zw_T := zw_in (i := 1024) (by decide +kernel) rfl
theorem zt_1026 : (.instanceMethod zn_M_next : Cond) ∈ zw_T := zw_in (i := 1026) (by decide +kernel) rfl
theorem zt_1027 : (.code zn_M_next ze_M_next 3 (some .boolean) : Cond) ∈ zw_T := zw_in (i := 1027) (by decide +kernel) rfl
theorem zt_1028 : (.methodLink zr_M 232 zn_M_extension : Cond) ∈ zw_T := zw_in (i := 1028) (by decide +kernel) rfl
theorem zt_1030 : (.instanceMethod zn_M_extension : Cond) ∈ zw_T := zw_in (i := 1030) (by decide +kernel) rfl
theorem zt_1031 : (.code zn_M_extension ze_M_extension 11 (some .long) : Cond) ∈ zw_T := zw_in (i := 1031) (by decide +kernel) rfl
theorem zt_1032 : (.methodLink zr_M 212 zn_M_truth : Cond) ∈ zw_T := zw_in (i := 1032) (by decide +kernel) rfl
theorem zt_1034 : (.instanceMethod zn_M_truth : Cond) ∈ zw_T := zw_in (i := 1034) (by decide +kernel) rfl
theorem zt_1035 : (.code zn_M_truth ze_M_truth 4 none : Cond) ∈ zw_T := zw_in (i := 1035) (by decide +kernel) rfl
theorem zt_1036 : (.methodLink zr_M 226 zn_M_basic : Cond) ∈ zw_T := zw_in (i := 1036) (by decide +kernel) rfl
theorem zt_1038 : (.instanceMethod zn_M_basic : Cond) ∈ zw_T := zw_in (i := 1038) (by decide +kernel) rfl
theorem zt_1039 : (.code zn_M_basic ze_M_basic 3 none : Cond) ∈ zw_T := zw_in (i := 1039) (by decide +kernel) rfl
theorem zt_1040 : (.constantLong zr_M 215 (4) : Cond) ∈ zw_T := zw_in (i := 1040) (by decide +kernel) rfl
theorem zt_1041 : (.methodLink zr_M 220 zn_M_done : Cond) ∈ zw_T := zw_in (i := 1041) (by decide +kernel) rfl
theorem zt_1043 : (.instanceMethod zn_M_done : Cond) ∈ zw_T := zw_in (i := 1043) (by decide +kernel) rfl
theorem zt_1044 : (.code zn_M_done ze_M_done 2 none : Cond) ∈ zw_T := zw_in (i := 1044) (by decide +kernel) rfl
theorem zt_1045 : (.methodLink zr_M 229 zn_M_realm : Cond) ∈ zw_T := zw_in (i := 1045) (by decide +kernel) rfl
theorem zt_1047 : (.instanceMethod zn_M_realm : Cond) ∈ zw_T := zw_in (i := 1047) (by decide +kernel) rfl
theorem zt_1048 : (.code zn_M_realm ze_M_realm 4 none : Cond) ∈ zw_T := zw_in (i := 1048) (by decide +kernel) rfl
theorem zt_1049 : (.methodLink zr_M 242 zn_M_readList : Cond) ∈ zw_T := zw_in (i := 1049) (by decide +kernel) rfl
theorem zt_1051 : (.instanceMethod zn_M_readList : Cond) ∈ zw_T := zw_in (i := 1051) (by decide +kernel) rfl
theorem zt_1052 : (.code zn_M_readList ze_M_readList 6 none : Cond) ∈ zw_T := zw_in (i := 1052) (by decide +kernel) rfl
theorem zt_1053 : (.methodLink zr_L 65 zn_M_store : Cond) ∈ zw_T := zw_in (i := 1053) (by decide +kernel) rfl
theorem zt_1054 : (.instanceMethod zn_M_store : Cond) ∈ zw_T := zw_in (i := 1054) (by decide +kernel) rfl
theorem zt_1055 : (.selects zr_M zn_M_store zn_M_store : Cond) ∈ zw_T := zw_in (i := 1055) (by decide +kernel) rfl
theorem zt_1056 : (.code zn_M_store ze_M_store 3 (some .int) : Cond) ∈ zw_T := zw_in (i := 1056) (by decide +kernel) rfl
theorem zt_1057 : (.methodLink zr_M 251 zn_M_check : Cond) ∈ zw_T := zw_in (i := 1057) (by decide +kernel) rfl
theorem zt_1058 : (.methodLink zr_M 255 zn_M_storeList : Cond) ∈ zw_T := zw_in (i := 1058) (by decide +kernel) rfl
theorem zt_1060 : (.instanceMethod zn_M_storeList : Cond) ∈ zw_T := zw_in (i := 1060) (by decide +kernel) rfl
theorem zt_1061 : (.code zn_M_storeList ze_M_storeList 3 (some .int) : Cond) ∈ zw_T := zw_in (i := 1061) (by decide +kernel) rfl
theorem zt_1062 : (.methodLink zr_L 70 zn_M_certificate : Cond) ∈ zw_T := zw_in (i := 1062) (by decide +kernel) rfl
theorem zt_1063 : (.instanceMethod zn_M_certificate : Cond) ∈ zw_T := zw_in (i := 1063) (by decide +kernel) rfl
theorem zt_1064 : (.selects zr_M zn_M_certificate zn_M_certificate : Cond) ∈ zw_T := zw_in (i := 1064) (by decide +kernel) rfl
theorem zt_1065 : (.code zn_M_certificate ze_M_certificate 5 (some .long) : Cond) ∈ zw_T := zw_in (i := 1065) (by decide +kernel) rfl
theorem zt_1066 : (.methodLink zr_M 258 zn_M_of : Cond) ∈ zw_T := zw_in (i := 1066) (by decide +kernel) rfl
theorem zt_1068 : (.instanceMethod zn_M_of : Cond) ∈ zw_T := zw_in (i := 1068) (by decide +kernel) rfl
theorem zt_1069 : (.code zn_M_of ze_M_of 3 (some .long) : Cond) ∈ zw_T := zw_in (i := 1069) (by decide +kernel) rfl
theorem zt_1070 : (.methodLink zr_L 74 zn_M_list : Cond) ∈ zw_T := zw_in (i := 1070) (by decide +kernel) rfl
theorem zt_1071 : (.instanceMethod zn_M_list : Cond) ∈ zw_T := zw_in (i := 1071) (by decide +kernel) rfl
theorem zt_1072 : (.selects zr_M zn_M_list zn_M_list : Cond) ∈ zw_T := zw_in (i := 1072) (by decide +kernel) rfl
theorem zt_1073 : (.code zn_M_list ze_M_list 3 (some .long) : Cond) ∈ zw_T := zw_in (i := 1073) (by decide +kernel) rfl
theorem zt_1074 : (.methodLink zr_L 79 zn_M_validate : Cond) ∈ zw_T := zw_in (i := 1074) (by decide +kernel) rfl
theorem zt_1075 : (.instanceMethod zn_M_validate : Cond) ∈ zw_T := zw_in (i := 1075) (by decide +kernel) rfl
theorem zt_1076 : (.selects zr_M zn_M_validate zn_M_validate : Cond) ∈ zw_T := zw_in (i := 1076) (by decide +kernel) rfl
theorem zt_1077 : (.code zn_M_validate ze_M_validate 7 (some .int) : Cond) ∈ zw_T := zw_in (i := 1077) (by decide +kernel) rfl
theorem zt_1078 : (.methodLink zr_M 309 zn_M_search : Cond) ∈ zw_T := zw_in (i := 1078) (by decide +kernel) rfl
theorem zt_1080 : (.instanceMethod zn_M_search : Cond) ∈ zw_T := zw_in (i := 1080) (by decide +kernel) rfl
theorem zt_1081 : (.code zn_M_search ze_M_search 9 (some .int) : Cond) ∈ zw_T := zw_in (i := 1081) (by decide +kernel) rfl
theorem zt_1082 : (.methodLink zr_M 284 zn_M_flag : Cond) ∈ zw_T := zw_in (i := 1082) (by decide +kernel) rfl
theorem zt_1084 : (.instanceMethod zn_M_flag : Cond) ∈ zw_T := zw_in (i := 1084) (by decide +kernel) rfl
theorem zt_1085 : (.code zn_M_flag ze_M_flag 4 (some .boolean) : Cond) ∈ zw_T := zw_in (i := 1085) (by decide +kernel) rfl
theorem zt_1086 : (.methodLink zr_M 302 zn_M_holds : Cond) ∈ zw_T := zw_in (i := 1086) (by decide +kernel) rfl
theorem zt_1088 : (.instanceMethod zn_M_holds : Cond) ∈ zw_T := zw_in (i := 1088) (by decide +kernel) rfl
theorem zt_1089 : (.code zn_M_holds ze_M_holds 6 (some .boolean) : Cond) ∈ zw_T := zw_in (i := 1089) (by decide +kernel) rfl
theorem zt_1090 : (.methodLink zr_M 295 zn_M_against : Cond) ∈ zw_T := zw_in (i := 1090) (by decide +kernel) rfl
theorem zt_1092 : (.instanceMethod zn_M_against : Cond) ∈ zw_T := zw_in (i := 1092) (by decide +kernel) rfl
theorem zt_1093 : (.code zn_M_against ze_M_against 9 (some .int) : Cond) ∈ zw_T := zw_in (i := 1093) (by decide +kernel) rfl
theorem zt_1094 : (.methodLink zr_M 265 zn_M_signedBy : Cond) ∈ zw_T := zw_in (i := 1094) (by decide +kernel) rfl
theorem zt_1096 : (.instanceMethod zn_M_signedBy : Cond) ∈ zw_T := zw_in (i := 1096) (by decide +kernel) rfl
theorem zt_1097 : (.code zn_M_signedBy ze_M_signedBy 6 (some .boolean) : Cond) ∈ zw_T := zw_in (i := 1097) (by decide +kernel) rfl
theorem zt_1098 : (.methodLink zr_M 261 zn_M_good : Cond) ∈ zw_T := zw_in (i := 1098) (by decide +kernel) rfl
theorem zt_1099 : (.methodLink zr_M 273 zn_M_listFor : Cond) ∈ zw_T := zw_in (i := 1099) (by decide +kernel) rfl
theorem zt_1101 : (.instanceMethod zn_M_listFor : Cond) ∈ zw_T := zw_in (i := 1101) (by decide +kernel) rfl
theorem zt_1102 : (.code zn_M_listFor ze_M_listFor 11 (some .int) : Cond) ∈ zw_T := zw_in (i := 1102) (by decide +kernel) rfl
theorem zt_1103 : (.methodLink zr_M 277 zn_M_isRevoked : Cond) ∈ zw_T := zw_in (i := 1103) (by decide +kernel) rfl
theorem zt_1105 : (.instanceMethod zn_M_isRevoked : Cond) ∈ zw_T := zw_in (i := 1105) (by decide +kernel) rfl
theorem zt_1106 : (.code zn_M_isRevoked ze_M_isRevoked 7 (some .boolean) : Cond) ∈ zw_T := zw_in (i := 1106) (by decide +kernel) rfl
theorem zt_1107 : (.methodLink zr_M 281 zn_M_keptOut : Cond) ∈ zw_T := zw_in (i := 1107) (by decide +kernel) rfl
theorem zt_1109 : (.instanceMethod zn_M_keptOut : Cond) ∈ zw_T := zw_in (i := 1109) (by decide +kernel) rfl
theorem zt_1110 : (.code zn_M_keptOut ze_M_keptOut 11 (some .boolean) : Cond) ∈ zw_T := zw_in (i := 1110) (by decide +kernel) rfl
theorem zt_1111 : (.methodLink zr_M 269 zn_M_within : Cond) ∈ zw_T := zw_in (i := 1111) (by decide +kernel) rfl
theorem zt_1112 : (.static zn_M_within : Cond) ∈ zw_T := zw_in (i := 1112) (by decide +kernel) rfl
theorem zt_1113 : (.code zn_M_within ze_M_within 5 (some .boolean) : Cond) ∈ zw_T := zw_in (i := 1113) (by decide +kernel) rfl
theorem zt_1114 : (.methodLink zr_M 288 zn_M_between : Cond) ∈ zw_T := zw_in (i := 1114) (by decide +kernel) rfl
theorem zt_1116 : (.instanceMethod zn_M_between : Cond) ∈ zw_T := zw_in (i := 1116) (by decide +kernel) rfl
theorem zt_1117 : (.code zn_M_between ze_M_between 4 (some .int) : Cond) ∈ zw_T := zw_in (i := 1117) (by decide +kernel) rfl
theorem zt_1118 : (.methodLink zr_M 306 zn_M_suits : Cond) ∈ zw_T := zw_in (i := 1118) (by decide +kernel) rfl
theorem zt_1120 : (.instanceMethod zn_M_suits : Cond) ∈ zw_T := zw_in (i := 1120) (by decide +kernel) rfl
theorem zt_1121 : (.code zn_M_suits ze_M_suits 6 (some .boolean) : Cond) ∈ zw_T := zw_in (i := 1121) (by decide +kernel) rfl
theorem zt_1122 : (.methodLink zr_L 83 zn_M_chain : Cond) ∈ zw_T := zw_in (i := 1122) (by decide +kernel) rfl
theorem zt_1123 : (.instanceMethod zn_M_chain : Cond) ∈ zw_T := zw_in (i := 1123) (by decide +kernel) rfl
theorem zt_1124 : (.selects zr_M zn_M_chain zn_M_chain : Cond) ∈ zw_T := zw_in (i := 1124) (by decide +kernel) rfl
theorem zt_1125 : (.code zn_M_chain ze_M_chain 2 (some .int) : Cond) ∈ zw_T := zw_in (i := 1125) (by decide +kernel) rfl
theorem zt_1126 : (.methodLink zr_L 87 zn_M_candidates : Cond) ∈ zw_T := zw_in (i := 1126) (by decide +kernel) rfl
theorem zt_1127 : (.instanceMethod zn_M_candidates : Cond) ∈ zw_T := zw_in (i := 1127) (by decide +kernel) rfl
theorem zt_1128 : (.selects zr_M zn_M_candidates zn_M_candidates : Cond) ∈ zw_T := zw_in (i := 1128) (by decide +kernel) rfl
theorem zt_1129 : (.code zn_M_candidates ze_M_candidates 1 (some .int) : Cond) ∈ zw_T := zw_in (i := 1129) (by decide +kernel) rfl
theorem zt_1130 : (.constantLong zr_L 32 (4294967295) : Cond) ∈ zw_T := zw_in (i := 1130) (by decide +kernel) rfl
