set_option maxRecDepth 100000 in
theorem ok_0 : aOKm m_0 = true := by decide +kernel
set_option maxRecDepth 100000 in
theorem mk_0 : aMchk m_0 = true := by decide +kernel
set_option maxRecDepth 100000 in
theorem ok_1 : aOKm m_1 = true := by decide +kernel
set_option maxRecDepth 100000 in
theorem mk_1 : aMchk m_1 = true := by decide +kernel
set_option maxRecDepth 100000 in
theorem ok_2 : aOKm m_2 = true := by decide +kernel
set_option maxRecDepth 100000 in
theorem mk_2 : aMchk m_2 = true := by decide +kernel
set_option maxRecDepth 100000 in
theorem ok_3 : aOKm m_3 = true := by decide +kernel
set_option maxRecDepth 100000 in
theorem mk_3 : aMchk m_3 = true := by decide +kernel
set_option maxRecDepth 100000 in
theorem ok_4 : aOKm m_4 = true := by decide +kernel
set_option maxRecDepth 100000 in
theorem mk_4 : aMchk m_4 = true := by decide +kernel
set_option maxRecDepth 100000 in
theorem ok_5 : aOKm m_5 = true := by decide +kernel
set_option maxRecDepth 100000 in
theorem mk_5 : aMchk m_5 = true := by decide +kernel
set_option maxRecDepth 100000 in
theorem ok_6 : aOKm m_6 = true := by decide +kernel
set_option maxRecDepth 100000 in
theorem mk_6 : aMchk m_6 = true := by decide +kernel
set_option maxRecDepth 100000 in
theorem ok_7 : aOKm m_7 = true := by decide +kernel
set_option maxRecDepth 100000 in
theorem mk_7 : aMchk m_7 = true := by decide +kernel
set_option maxRecDepth 100000 in
theorem ok_8 : aOKm m_8 = true := by decide +kernel
set_option maxRecDepth 100000 in
theorem mk_8 : aMchk m_8 = true := by decide +kernel
set_option maxRecDepth 100000 in
theorem ok_9 : aOKm m_9 = true := by decide +kernel
set_option maxRecDepth 100000 in
theorem mk_9 : aMchk m_9 = true := by decide +kernel
set_option maxRecDepth 100000 in
theorem ok_10 : aOKm m_10 = true := by decide +kernel
set_option maxRecDepth 100000 in
theorem mk_10 : aMchk m_10 = true := by decide +kernel
set_option maxRecDepth 100000 in
theorem ok_11 : aOKm m_11 = true := by decide +kernel
set_option maxRecDepth 100000 in
theorem mk_11 : aMchk m_11 = true := by decide +kernel
set_option maxRecDepth 100000 in
theorem ok_12 : aOKm m_12 = true := by decide +kernel
set_option maxRecDepth 100000 in
theorem mk_12 : aMchk m_12 = true := by decide +kernel
set_option maxRecDepth 100000 in
theorem ok_13 : aOKm m_13 = true := by decide +kernel
set_option maxRecDepth 100000 in
theorem mk_13 : aMchk m_13 = true := by decide +kernel
set_option maxRecDepth 100000 in
theorem ok_14 : aOKm m_14 = true := by decide +kernel
set_option maxRecDepth 100000 in
theorem mk_14 : aMchk m_14 = true := by decide +kernel
set_option maxRecDepth 100000 in
theorem ok_15 : aOKm m_15 = true := by decide +kernel
set_option maxRecDepth 100000 in
theorem mk_15 : aMchk m_15 = true := by decide +kernel
set_option maxRecDepth 100000 in
theorem ok_16 : aOKm m_16 = true := by decide +kernel
set_option maxRecDepth 100000 in
theorem mk_16 : aMchk m_16 = true := by decide +kernel
set_option maxRecDepth 100000 in
theorem ok_17 : aOKm m_17 = true := by decide +kernel
set_option maxRecDepth 100000 in
theorem mk_17 : aMchk m_17 = true := by decide +kernel
set_option maxRecDepth 100000 in
theorem ok_18 : aOKm m_18 = true := by decide +kernel
set_option maxRecDepth 100000 in
theorem mk_18 : aMchk m_18 = true := by decide +kernel
set_option maxRecDepth 100000 in
theorem ok_19 : aOKm m_19 = true := by decide +kernel
set_option maxRecDepth 100000 in
theorem mk_19 : aMchk m_19 = true := by decide +kernel
set_option maxRecDepth 100000 in
theorem ok_20 : aOKm m_20 = true := by decide +kernel
set_option maxRecDepth 100000 in
theorem mk_20 : aMchk m_20 = true := by decide +kernel
set_option maxRecDepth 100000 in
theorem ok_21 : aOKm m_21 = true := by decide +kernel
set_option maxRecDepth 100000 in
theorem mk_21 : aMchk m_21 = true := by decide +kernel
set_option maxRecDepth 100000 in
theorem ok_22 : aOKm m_22 = true := by decide +kernel
set_option maxRecDepth 100000 in
theorem mk_22 : aMchk m_22 = true := by decide +kernel
set_option maxRecDepth 100000 in
theorem ok_23 : aOKm m_23 = true := by decide +kernel
set_option maxRecDepth 100000 in
theorem mk_23 : aMchk m_23 = true := by decide +kernel
set_option maxRecDepth 100000 in
theorem ok_24 : aOKm m_24 = true := by decide +kernel
set_option maxRecDepth 100000 in
theorem mk_24 : aMchk m_24 = true := by decide +kernel
set_option maxRecDepth 100000 in
theorem ok_25 : aOKm m_25 = true := by decide +kernel
set_option maxRecDepth 100000 in
theorem mk_25 : aMchk m_25 = true := by decide +kernel
set_option maxRecDepth 100000 in
theorem ok_26 : aOKm m_26 = true := by decide +kernel
set_option maxRecDepth 100000 in
theorem mk_26 : aMchk m_26 = true := by decide +kernel
set_option maxRecDepth 100000 in
theorem ok_27 : aOKm m_27 = true := by decide +kernel
set_option maxRecDepth 100000 in
theorem mk_27 : aMchk m_27 = true := by decide +kernel
set_option maxRecDepth 100000 in
theorem ok_28 : aOKm m_28 = true := by decide +kernel
set_option maxRecDepth 100000 in
theorem mk_28 : aMchk m_28 = true := by decide +kernel
set_option maxRecDepth 100000 in
theorem ok_29 : aOKm m_29 = true := by decide +kernel
set_option maxRecDepth 100000 in
theorem mk_29 : aMchk m_29 = true := by decide +kernel
set_option maxRecDepth 100000 in
theorem ok_30 : aOKm m_30 = true := by decide +kernel
set_option maxRecDepth 100000 in
theorem mk_30 : aMchk m_30 = true := by decide +kernel
set_option maxRecDepth 100000 in
theorem ok_31 : aOKm m_31 = true := by decide +kernel
set_option maxRecDepth 100000 in
theorem mk_31 : aMchk m_31 = true := by decide +kernel
set_option maxRecDepth 100000 in
theorem ok_32 : aOKm m_32 = true := by decide +kernel
set_option maxRecDepth 100000 in
theorem mk_32 : aMchk m_32 = true := by decide +kernel
set_option maxRecDepth 100000 in
theorem ok_33 : aOKm m_33 = true := by decide +kernel
set_option maxRecDepth 100000 in
theorem mk_33 : aMchk m_33 = true := by decide +kernel
set_option maxRecDepth 100000 in
theorem ok_34 : aOKm m_34 = true := by decide +kernel
set_option maxRecDepth 100000 in
theorem mk_34 : aMchk m_34 = true := by decide +kernel
set_option maxRecDepth 100000 in
theorem ok_35 : aOKm m_35 = true := by decide +kernel
set_option maxRecDepth 100000 in
theorem mk_35 : aMchk m_35 = true := by decide +kernel
set_option maxRecDepth 100000 in
theorem ok_36 : aOKm m_36 = true := by decide +kernel
set_option maxRecDepth 100000 in
theorem mk_36 : aMchk m_36 = true := by decide +kernel
set_option maxRecDepth 100000 in
theorem ok_37 : aOKm m_37 = true := by decide +kernel
set_option maxRecDepth 100000 in
theorem mk_37 : aMchk m_37 = true := by decide +kernel
set_option maxRecDepth 100000 in
theorem ok_38 : aOKm m_38 = true := by decide +kernel
set_option maxRecDepth 100000 in
theorem mk_38 : aMchk m_38 = true := by decide +kernel
set_option maxRecDepth 100000 in
theorem ok_39 : aOKm m_39 = true := by decide +kernel
set_option maxRecDepth 100000 in
theorem mk_39 : aMchk m_39 = true := by decide +kernel
set_option maxRecDepth 100000 in
theorem ok_40 : aOKm m_40 = true := by decide +kernel
set_option maxRecDepth 100000 in
theorem mk_40 : aMchk m_40 = true := by decide +kernel
set_option maxRecDepth 100000 in
theorem ok_41 : aOKm m_41 = true := by decide +kernel
set_option maxRecDepth 100000 in
theorem mk_41 : aMchk m_41 = true := by decide +kernel
set_option maxRecDepth 100000 in
theorem ok_42 : aOKm m_42 = true := by decide +kernel
set_option maxRecDepth 100000 in
theorem mk_42 : aMchk m_42 = true := by decide +kernel
set_option maxRecDepth 100000 in
theorem ok_43 : aOKm m_43 = true := by decide +kernel
set_option maxRecDepth 100000 in
theorem mk_43 : aMchk m_43 = true := by decide +kernel
set_option maxRecDepth 100000 in
theorem ok_44 : aOKm m_44 = true := by decide +kernel
set_option maxRecDepth 100000 in
theorem mk_44 : aMchk m_44 = true := by decide +kernel
set_option maxRecDepth 100000 in
theorem ok_45 : aOKm m_45 = true := by decide +kernel
set_option maxRecDepth 100000 in
theorem mk_45 : aMchk m_45 = true := by decide +kernel
set_option maxRecDepth 100000 in
theorem ok_46 : aOKm m_46 = true := by decide +kernel
set_option maxRecDepth 100000 in
theorem mk_46 : aMchk m_46 = true := by decide +kernel
set_option maxRecDepth 100000 in
theorem ok_47 : aOKm m_47 = true := by decide +kernel
set_option maxRecDepth 100000 in
theorem mk_47 : aMchk m_47 = true := by decide +kernel
set_option maxRecDepth 100000 in
theorem ok_48 : aOKm m_48 = true := by decide +kernel
set_option maxRecDepth 100000 in
theorem mk_48 : aMchk m_48 = true := by decide +kernel
set_option maxRecDepth 100000 in
theorem ok_49 : aOKm m_49 = true := by decide +kernel
set_option maxRecDepth 100000 in
theorem mk_49 : aMchk m_49 = true := by decide +kernel
set_option maxRecDepth 100000 in
theorem ok_50 : aOKm m_50 = true := by decide +kernel
set_option maxRecDepth 100000 in
theorem mk_50 : aMchk m_50 = true := by decide +kernel
set_option maxRecDepth 100000 in
theorem ok_51 : aOKm m_51 = true := by decide +kernel
set_option maxRecDepth 100000 in
theorem mk_51 : aMchk m_51 = true := by decide +kernel
set_option maxRecDepth 100000 in
theorem ok_52 : aOKm m_52 = true := by decide +kernel
set_option maxRecDepth 100000 in
theorem mk_52 : aMchk m_52 = true := by decide +kernel
set_option maxRecDepth 100000 in
theorem ok_53 : aOKm m_53 = true := by decide +kernel
set_option maxRecDepth 100000 in
theorem mk_53 : aMchk m_53 = true := by decide +kernel
set_option maxRecDepth 100000 in
theorem ok_54 : aOKm m_54 = true := by decide +kernel
set_option maxRecDepth 100000 in
theorem mk_54 : aMchk m_54 = true := by decide +kernel
set_option maxRecDepth 100000 in
theorem ok_55 : aOKm m_55 = true := by decide +kernel
set_option maxRecDepth 100000 in
theorem mk_55 : aMchk m_55 = true := by decide +kernel
set_option maxRecDepth 100000 in
theorem ok_56 : aOKm m_56 = true := by decide +kernel
set_option maxRecDepth 100000 in
theorem mk_56 : aMchk m_56 = true := by decide +kernel
set_option maxRecDepth 100000 in
theorem ok_57 : aOKm m_57 = true := by decide +kernel
set_option maxRecDepth 100000 in
theorem mk_57 : aMchk m_57 = true := by decide +kernel
set_option maxRecDepth 100000 in
theorem ok_58 : aOKm m_58 = true := by decide +kernel
set_option maxRecDepth 100000 in
theorem mk_58 : aMchk m_58 = true := by decide +kernel
set_option maxRecDepth 100000 in
theorem ok_59 : aOKm m_59 = true := by decide +kernel
set_option maxRecDepth 100000 in
theorem mk_59 : aMchk m_59 = true := by decide +kernel
set_option maxRecDepth 100000 in
theorem ok_60 : aOKm m_60 = true := by decide +kernel
set_option maxRecDepth 100000 in
theorem mk_60 : aMchk m_60 = true := by decide +kernel
set_option maxRecDepth 100000 in
theorem ok_61 : aOKm m_61 = true := by decide +kernel
set_option maxRecDepth 100000 in
theorem mk_61 : aMchk m_61 = true := by decide +kernel
set_option maxRecDepth 100000 in
theorem ok_62 : aOKm m_62 = true := by decide +kernel
set_option maxRecDepth 100000 in
theorem mk_62 : aMchk m_62 = true := by decide +kernel
set_option maxRecDepth 100000 in
theorem ok_63 : aOKm m_63 = true := by decide +kernel
set_option maxRecDepth 100000 in
theorem mk_63 : aMchk m_63 = true := by decide +kernel
set_option maxRecDepth 100000 in
theorem ok_64 : aOKm m_64 = true := by decide +kernel
set_option maxRecDepth 100000 in
theorem mk_64 : aMchk m_64 = true := by decide +kernel
set_option maxRecDepth 100000 in
theorem ok_65 : aOKm m_65 = true := by decide +kernel
set_option maxRecDepth 100000 in
theorem mk_65 : aMchk m_65 = true := by decide +kernel
