/-! The classes: names, fields, types. -/
theorem pv_1 {q : MethodName × Nat} (h : q ∈ lw_privs_1) : q ∈ lw_privs := List.mem_append_left _ h
theorem pv_2 {q : MethodName × Nat} (h : q ∈ lw_privs_2) : q ∈ lw_privs := List.mem_append_right _ (List.mem_append_left _ h)
theorem pv_3 {q : MethodName × Nat} (h : q ∈ lw_privs_3) : q ∈ lw_privs := List.mem_append_right _ (List.mem_append_right _ (List.mem_append_left _ h))
theorem pv_4 {q : MethodName × Nat} (h : q ∈ lw_privs_4) : q ∈ lw_privs := List.mem_append_right _ (List.mem_append_right _ (List.mem_append_right _ (List.mem_append_left _ h)))
theorem pv_5 {q : MethodName × Nat} (h : q ∈ lw_privs_5) : q ∈ lw_privs := List.mem_append_right _ (List.mem_append_right _ (List.mem_append_right _ (List.mem_append_right _ (List.mem_append_left _ h))))
theorem pv_6 {q : MethodName × Nat} (h : q ∈ lw_privs_6) : q ∈ lw_privs := List.mem_append_right _ (List.mem_append_right _ (List.mem_append_right _ (List.mem_append_right _ (List.mem_append_right _ (List.mem_append_left _ h)))))
theorem pv_7 {q : MethodName × Nat} (h : q ∈ lw_privs_7) : q ∈ lw_privs := List.mem_append_right _ (List.mem_append_right _ (List.mem_append_right _ (List.mem_append_right _ (List.mem_append_right _ (List.mem_append_right _ (List.mem_append_left _ h))))))
theorem pv_8 {q : MethodName × Nat} (h : q ∈ lw_privs_8) : q ∈ lw_privs := List.mem_append_right _ (List.mem_append_right _ (List.mem_append_right _ (List.mem_append_right _ (List.mem_append_right _ (List.mem_append_right _ (List.mem_append_right _ (h)))))))
theorem w0 : Cond.lays "SeriesVault" "SeriesVault" "tape" "[B" ∈ aW := aw_of (tb_2 (List.mem_of_getElem? (i := 223) rfl)) rfl
theorem w1 : Cond.lays "SeriesVault" "SeriesVault" "tapeLength" "I" ∈ aW := aw_of (tb_2 (List.mem_of_getElem? (i := 225) rfl)) rfl
theorem w2 : Cond.lays "SeriesVault" "SeriesVault" "faultCode" "I" ∈ aW := aw_of (tb_2 (List.mem_of_getElem? (i := 227) rfl)) rfl
theorem w3 : Cond.lays "SeriesVault" "SeriesVault" "faultPlace" "I" ∈ aW := aw_of (tb_2 (List.mem_of_getElem? (i := 229) rfl)) rfl
theorem w4 : Cond.lays "SeriesVault" "SeriesVault" "diskBlocks" "I" ∈ aW := aw_of (tb_2 (List.mem_of_getElem? (i := 231) rfl)) rfl
theorem w5 : Cond.lays "SeriesVault" "SeriesVault" "powered" "Z" ∈ aW := aw_of (tb_2 (List.mem_of_getElem? (i := 233) rfl)) rfl
theorem w6 : Cond.lays "SeriesVault" "SeriesVault" "cutLeft" "I" ∈ aW := aw_of (tb_2 (List.mem_of_getElem? (i := 235) rfl)) rfl
theorem w7 : Cond.lays "SeriesVault" "SeriesVault" "writes" "I" ∈ aW := aw_of (tb_2 (List.mem_of_getElem? (i := 237) rfl)) rfl
theorem w8 : Cond.laysFinal "SeriesVault" "SeriesVault" "journal" "LSeriesVault$Journal;" ∈ aW := aw_of (tb_2 (List.mem_of_getElem? (i := 239) rfl)) rfl
theorem w9 : Cond.laysFinal "SeriesVault" "SeriesVault" "head" "LSeriesVault$Points;" ∈ aW := aw_of (tb_3 (List.mem_of_getElem? (i := 1) rfl)) rfl
theorem w10 : Cond.laysFinal "SeriesVault" "SeriesVault" "gathered" "LSeriesVault$Points;" ∈ aW := aw_of (tb_3 (List.mem_of_getElem? (i := 3) rfl)) rfl
theorem w11 : Cond.laysFinal "SeriesVault" "SeriesVault" "now" "LSeriesVault$Shelf;" ∈ aW := aw_of (tb_3 (List.mem_of_getElem? (i := 5) rfl)) rfl
theorem w12 : Cond.laysFinal "SeriesVault" "SeriesVault" "saved" "LSeriesVault$Shelf;" ∈ aW := aw_of (tb_3 (List.mem_of_getElem? (i := 7) rfl)) rfl
theorem w13 : Cond.laysFinal "SeriesVault" "SeriesVault" "known" "[LSeriesVault$Series;" ∈ aW := aw_of (tb_3 (List.mem_of_getElem? (i := 9) rfl)) rfl
theorem w14 : Cond.laysFinal "SeriesVault" "SeriesVault" "reader" "LSeriesVault$SeriesReader;" ∈ aW := aw_of (tb_3 (List.mem_of_getElem? (i := 11) rfl)) rfl
theorem w15 : Cond.laysFinal "SeriesVault" "SeriesVault" "question" "LSeriesVault$Question;" ∈ aW := aw_of (tb_3 (List.mem_of_getElem? (i := 13) rfl)) rfl
theorem w16 : Cond.laysFinal "SeriesVault" "SeriesVault" "answers" "LSeriesVault$Answers;" ∈ aW := aw_of (tb_3 (List.mem_of_getElem? (i := 15) rfl)) rfl
theorem w17 : Cond.lays "SeriesVault" "SeriesVault" "hasTable" "Z" ∈ aW := aw_of (tb_3 (List.mem_of_getElem? (i := 17) rfl)) rfl
theorem w18 : Cond.lays "SeriesVault$Journal" "SeriesVault$Journal" "kinds" "[I" ∈ aW := aw_of (tb_1 (List.mem_of_getElem? (i := 74) rfl)) rfl
theorem w19 : Cond.lays "SeriesVault$Journal" "SeriesVault$Journal" "owners" "[I" ∈ aW := aw_of (tb_1 (List.mem_of_getElem? (i := 76) rfl)) rfl
theorem w20 : Cond.lays "SeriesVault$Journal" "SeriesVault$Journal" "unitsOf" "[I" ∈ aW := aw_of (tb_1 (List.mem_of_getElem? (i := 78) rfl)) rfl
theorem w21 : Cond.lays "SeriesVault$Journal" "SeriesVault$Journal" "blocksOf" "[I" ∈ aW := aw_of (tb_1 (List.mem_of_getElem? (i := 80) rfl)) rfl
theorem w22 : Cond.lays "SeriesVault$Journal" "SeriesVault$Journal" "firsts" "[J" ∈ aW := aw_of (tb_1 (List.mem_of_getElem? (i := 82) rfl)) rfl
theorem w23 : Cond.lays "SeriesVault$Journal" "SeriesVault$Journal" "seconds" "[J" ∈ aW := aw_of (tb_1 (List.mem_of_getElem? (i := 84) rfl)) rfl
theorem w24 : Cond.lays "SeriesVault$Journal" "SeriesVault$Journal" "size" "I" ∈ aW := aw_of (tb_1 (List.mem_of_getElem? (i := 86) rfl)) rfl
theorem w25 : Cond.lays "SeriesVault$Journal" "SeriesVault$Journal" "kept" "I" ∈ aW := aw_of (tb_1 (List.mem_of_getElem? (i := 88) rfl)) rfl
theorem w26 : Cond.lays "SeriesVault$Journal" "SeriesVault$Journal" "units" "I" ∈ aW := aw_of (tb_1 (List.mem_of_getElem? (i := 90) rfl)) rfl
theorem w27 : Cond.lays "SeriesVault$Journal" "SeriesVault$Journal" "blockLimit" "I" ∈ aW := aw_of (tb_1 (List.mem_of_getElem? (i := 92) rfl)) rfl
theorem w28 : Cond.lays "SeriesVault$Journal" "SeriesVault$Journal" "block" "I" ∈ aW := aw_of (tb_1 (List.mem_of_getElem? (i := 94) rfl)) rfl
theorem w29 : Cond.lays "SeriesVault$Journal" "SeriesVault$Journal" "fill" "I" ∈ aW := aw_of (tb_1 (List.mem_of_getElem? (i := 96) rfl)) rfl
theorem w30 : Cond.lays "SeriesVault$Journal" "SeriesVault$Journal" "changed" "Z" ∈ aW := aw_of (tb_1 (List.mem_of_getElem? (i := 98) rfl)) rfl
theorem w31 : Cond.lays "SeriesVault$Points" "SeriesVault$Points" "owners" "[I" ∈ aW := aw_of (tb_1 (List.mem_of_getElem? (i := 123) rfl)) rfl
theorem w32 : Cond.lays "SeriesVault$Points" "SeriesVault$Points" "times" "[J" ∈ aW := aw_of (tb_1 (List.mem_of_getElem? (i := 125) rfl)) rfl
theorem w33 : Cond.lays "SeriesVault$Points" "SeriesVault$Points" "values" "[J" ∈ aW := aw_of (tb_1 (List.mem_of_getElem? (i := 127) rfl)) rfl
theorem w34 : Cond.lays "SeriesVault$Points" "SeriesVault$Points" "size" "I" ∈ aW := aw_of (tb_1 (List.mem_of_getElem? (i := 129) rfl)) rfl
theorem w35 : Cond.laysFinal "SeriesVault$Shelf" "SeriesVault$Shelf" "parcels" "[LSeriesVault$Parcel;" ∈ aW := aw_of (tb_1 (List.mem_of_getElem? (i := 161) rfl)) rfl
theorem w36 : Cond.lays "SeriesVault$Shelf" "SeriesVault$Shelf" "parcelCount" "I" ∈ aW := aw_of (tb_1 (List.mem_of_getElem? (i := 163) rfl)) rfl
theorem w37 : Cond.laysFinal "SeriesVault$Shelf" "SeriesVault$Shelf" "scarOwners" "[I" ∈ aW := aw_of (tb_1 (List.mem_of_getElem? (i := 165) rfl)) rfl
theorem w38 : Cond.laysFinal "SeriesVault$Shelf" "SeriesVault$Shelf" "scarFroms" "[J" ∈ aW := aw_of (tb_1 (List.mem_of_getElem? (i := 167) rfl)) rfl
theorem w39 : Cond.laysFinal "SeriesVault$Shelf" "SeriesVault$Shelf" "scarTos" "[J" ∈ aW := aw_of (tb_1 (List.mem_of_getElem? (i := 169) rfl)) rfl
theorem w40 : Cond.laysFinal "SeriesVault$Shelf" "SeriesVault$Shelf" "scarPoints" "[I" ∈ aW := aw_of (tb_1 (List.mem_of_getElem? (i := 171) rfl)) rfl
theorem w41 : Cond.lays "SeriesVault$Shelf" "SeriesVault$Shelf" "scarCount" "I" ∈ aW := aw_of (tb_1 (List.mem_of_getElem? (i := 173) rfl)) rfl
theorem w42 : Cond.lays "SeriesVault$Shelf" "SeriesVault$Shelf" "horizon" "J" ∈ aW := aw_of (tb_1 (List.mem_of_getElem? (i := 175) rfl)) rfl
theorem w43 : Cond.lays "SeriesVault$Shelf" "SeriesVault$Shelf" "seriesCount" "I" ∈ aW := aw_of (tb_1 (List.mem_of_getElem? (i := 177) rfl)) rfl
theorem w44 : Cond.laysFinal "SeriesVault$Shelf" "SeriesVault$Shelf" "lasts" "[J" ∈ aW := aw_of (tb_1 (List.mem_of_getElem? (i := 179) rfl)) rfl
theorem w45 : Cond.lays "SeriesVault$Shelf" "SeriesVault$Shelf" "catalogBlocks" "I" ∈ aW := aw_of (tb_1 (List.mem_of_getElem? (i := 181) rfl)) rfl
theorem w46 : Cond.laysFinal "SeriesVault$SeriesReader" "SeriesVault$SeriesReader" "nameStarts" "[I" ∈ aW := aw_of (tb_1 (List.mem_of_getElem? (i := 200) rfl)) rfl
theorem w47 : Cond.laysFinal "SeriesVault$SeriesReader" "SeriesVault$SeriesReader" "nameEnds" "[I" ∈ aW := aw_of (tb_1 (List.mem_of_getElem? (i := 202) rfl)) rfl
theorem w48 : Cond.laysFinal "SeriesVault$SeriesReader" "SeriesVault$SeriesReader" "valueEnds" "[I" ∈ aW := aw_of (tb_1 (List.mem_of_getElem? (i := 204) rfl)) rfl
theorem w49 : Cond.lays "SeriesVault$SeriesReader" "SeriesVault$SeriesReader" "labels" "I" ∈ aW := aw_of (tb_1 (List.mem_of_getElem? (i := 206) rfl)) rfl
theorem w50 : Cond.lays "SeriesVault$SeriesReader" "SeriesVault$SeriesReader" "faultCode" "I" ∈ aW := aw_of (tb_1 (List.mem_of_getElem? (i := 208) rfl)) rfl
theorem w51 : Cond.lays "SeriesVault$SeriesReader" "SeriesVault$SeriesReader" "faultPlace" "I" ∈ aW := aw_of (tb_1 (List.mem_of_getElem? (i := 210) rfl)) rfl
theorem w52 : Cond.lays "SeriesVault$Question" "SeriesVault$Question" "tape" "[B" ∈ aW := aw_of (tb_2 (List.mem_of_getElem? (i := 17) rfl)) rfl
theorem w53 : Cond.lays "SeriesVault$Question" "SeriesVault$Question" "length" "I" ∈ aW := aw_of (tb_2 (List.mem_of_getElem? (i := 19) rfl)) rfl
theorem w54 : Cond.lays "SeriesVault$Question" "SeriesVault$Question" "tokenKind" "I" ∈ aW := aw_of (tb_2 (List.mem_of_getElem? (i := 21) rfl)) rfl
theorem w55 : Cond.lays "SeriesVault$Question" "SeriesVault$Question" "tokenStart" "I" ∈ aW := aw_of (tb_2 (List.mem_of_getElem? (i := 23) rfl)) rfl
theorem w56 : Cond.lays "SeriesVault$Question" "SeriesVault$Question" "tokenEnd" "I" ∈ aW := aw_of (tb_2 (List.mem_of_getElem? (i := 25) rfl)) rfl
theorem w57 : Cond.lays "SeriesVault$Question" "SeriesVault$Question" "tokenNumber" "J" ∈ aW := aw_of (tb_2 (List.mem_of_getElem? (i := 27) rfl)) rfl
theorem w58 : Cond.lays "SeriesVault$Question" "SeriesVault$Question" "faultCode" "I" ∈ aW := aw_of (tb_2 (List.mem_of_getElem? (i := 29) rfl)) rfl
theorem w59 : Cond.lays "SeriesVault$Question" "SeriesVault$Question" "faultPlace" "I" ∈ aW := aw_of (tb_2 (List.mem_of_getElem? (i := 31) rfl)) rfl
theorem w60 : Cond.laysFinal "SeriesVault$Question" "SeriesVault$Question" "steps" "Ljava/util/ArrayList;" ∈ aW := aw_of (tb_2 (List.mem_of_getElem? (i := 33) rfl)) rfl
theorem w61 : Cond.lays "java/util/ArrayList" "java/util/ArrayList" "elementData" "[Ljava/lang/Object;" ∈ aW := aw_of (tb_1 (List.mem_of_getElem? (i := 238) rfl)) rfl
theorem w62 : Cond.lays "java/util/ArrayList" "java/util/ArrayList" "size" "I" ∈ aW := aw_of (tb_2 (List.mem_of_getElem? (i := 0) rfl)) rfl
theorem w63 : Cond.lays "java/util/ArrayList" "java/util/AbstractList" "modCount" "I" ∈ aW := aw_of (tb_2 (List.mem_of_getElem? (i := 2) rfl)) rfl
theorem w64 : Cond.laysFinal "SeriesVault$Answers" "SeriesVault$Answers" "stack" "Ljava/util/ArrayList;" ∈ aW := aw_of (tb_2 (List.mem_of_getElem? (i := 159) rfl)) rfl
theorem w65 : Cond.lays "SeriesVault$Answers" "SeriesVault$Answers" "depth" "I" ∈ aW := aw_of (tb_2 (List.mem_of_getElem? (i := 161) rfl)) rfl
theorem w66 : Cond.laysFinal "SeriesVault$Answers" "SeriesVault$Answers" "rowOf" "[I" ∈ aW := aw_of (tb_2 (List.mem_of_getElem? (i := 163) rfl)) rfl
theorem w67 : Cond.laysFinal "SeriesVault$Answers" "SeriesVault$Answers" "hasBefore" "[Z" ∈ aW := aw_of (tb_2 (List.mem_of_getElem? (i := 165) rfl)) rfl
theorem w68 : Cond.laysFinal "SeriesVault$Answers" "SeriesVault$Answers" "before" "[J" ∈ aW := aw_of (tb_2 (List.mem_of_getElem? (i := 167) rfl)) rfl
theorem w69 : Cond.lays "SeriesVault$Answers" "SeriesVault$Answers" "bestTimes" "[J" ∈ aW := aw_of (tb_2 (List.mem_of_getElem? (i := 169) rfl)) rfl
theorem w70 : Cond.lays "SeriesVault$Answers" "SeriesVault$Answers" "bestOwners" "[I" ∈ aW := aw_of (tb_2 (List.mem_of_getElem? (i := 171) rfl)) rfl
theorem w71 : Cond.lays "SeriesVault$Answers" "SeriesVault$Answers" "from" "J" ∈ aW := aw_of (tb_2 (List.mem_of_getElem? (i := 173) rfl)) rfl
theorem w72 : Cond.lays "SeriesVault$Answers" "SeriesVault$Answers" "width" "J" ∈ aW := aw_of (tb_2 (List.mem_of_getElem? (i := 175) rfl)) rfl
theorem w73 : Cond.lays "SeriesVault$Answers" "SeriesVault$Answers" "windows" "I" ∈ aW := aw_of (tb_2 (List.mem_of_getElem? (i := 177) rfl)) rfl
theorem w74 : Cond.laysFinal "SeriesVault$Table" "SeriesVault$Table" "names" "[LSeriesVault$Word;" ∈ aW := aw_of (tb_2 (List.mem_of_getElem? (i := 65) rfl)) rfl
theorem w75 : Cond.lays "SeriesVault$Table" "SeriesVault$Table" "nameCount" "I" ∈ aW := aw_of (tb_2 (List.mem_of_getElem? (i := 67) rfl)) rfl
theorem w76 : Cond.lays "SeriesVault$Table" "SeriesVault$Table" "windows" "I" ∈ aW := aw_of (tb_2 (List.mem_of_getElem? (i := 69) rfl)) rfl
theorem w77 : Cond.lays "SeriesVault$Table" "SeriesVault$Table" "rowCount" "I" ∈ aW := aw_of (tb_2 (List.mem_of_getElem? (i := 71) rfl)) rfl
theorem w78 : Cond.laysFinal "SeriesVault$Table" "SeriesVault$Table" "rowSeries" "[LSeriesVault$Series;" ∈ aW := aw_of (tb_2 (List.mem_of_getElem? (i := 73) rfl)) rfl
theorem w79 : Cond.laysFinal "SeriesVault$Table" "SeriesVault$Table" "there" "[J" ∈ aW := aw_of (tb_2 (List.mem_of_getElem? (i := 75) rfl)) rfl
theorem w80 : Cond.lays "SeriesVault$Table" "SeriesVault$Table" "cells" "[J" ∈ aW := aw_of (tb_2 (List.mem_of_getElem? (i := 77) rfl)) rfl
theorem w81 : Cond.lays "SeriesVaultModel" "SeriesVaultModel" "code" "I" ∈ aW := aw_of (tb_9 (List.mem_of_getElem? (i := 13) rfl)) rfl
theorem w82 : Cond.laysFinal "SeriesVaultModel" "SeriesVaultModel" "tape" "[B" ∈ aW := aw_of (tb_9 (List.mem_of_getElem? (i := 15) rfl)) rfl
theorem w83 : Cond.lays "SeriesVaultModel" "SeriesVaultModel" "length" "I" ∈ aW := aw_of (tb_9 (List.mem_of_getElem? (i := 17) rfl)) rfl
theorem w84 : Cond.lays "SeriesVaultModel" "SeriesVaultModel" "faultCode" "I" ∈ aW := aw_of (tb_9 (List.mem_of_getElem? (i := 19) rfl)) rfl
theorem w85 : Cond.lays "SeriesVaultModel" "SeriesVaultModel" "faultPlace" "I" ∈ aW := aw_of (tb_9 (List.mem_of_getElem? (i := 21) rfl)) rfl
theorem w86 : Cond.lays "SeriesVaultModel" "SeriesVaultModel" "blocks" "I" ∈ aW := aw_of (tb_9 (List.mem_of_getElem? (i := 23) rfl)) rfl
theorem w87 : Cond.lays "SeriesVaultModel" "SeriesVaultModel" "journal" "I" ∈ aW := aw_of (tb_9 (List.mem_of_getElem? (i := 25) rfl)) rfl
theorem w88 : Cond.lays "SeriesVaultModel" "SeriesVaultModel" "on" "Z" ∈ aW := aw_of (tb_9 (List.mem_of_getElem? (i := 27) rfl)) rfl
theorem w89 : Cond.lays "SeriesVaultModel" "SeriesVaultModel" "cutLeft" "I" ∈ aW := aw_of (tb_9 (List.mem_of_getElem? (i := 29) rfl)) rfl
theorem w90 : Cond.lays "SeriesVaultModel" "SeriesVaultModel" "written" "I" ∈ aW := aw_of (tb_9 (List.mem_of_getElem? (i := 31) rfl)) rfl
theorem w91 : Cond.laysFinal "SeriesVaultModel" "SeriesVaultModel" "texts" "[B" ∈ aW := aw_of (tb_9 (List.mem_of_getElem? (i := 33) rfl)) rfl
theorem w92 : Cond.laysFinal "SeriesVaultModel" "SeriesVaultModel" "textLengths" "[I" ∈ aW := aw_of (tb_9 (List.mem_of_getElem? (i := 35) rfl)) rfl
theorem w93 : Cond.lays "SeriesVaultModel" "SeriesVaultModel" "seriesCount" "I" ∈ aW := aw_of (tb_9 (List.mem_of_getElem? (i := 37) rfl)) rfl
theorem w94 : Cond.laysFinal "SeriesVaultModel" "SeriesVaultModel" "lasts" "[J" ∈ aW := aw_of (tb_9 (List.mem_of_getElem? (i := 39) rfl)) rfl
theorem w95 : Cond.lays "SeriesVaultModel" "SeriesVaultModel" "baseSeries" "I" ∈ aW := aw_of (tb_9 (List.mem_of_getElem? (i := 41) rfl)) rfl
theorem w96 : Cond.laysFinal "SeriesVaultModel" "SeriesVaultModel" "baseLasts" "[J" ∈ aW := aw_of (tb_9 (List.mem_of_getElem? (i := 43) rfl)) rfl
theorem w97 : Cond.lays "SeriesVaultModel" "SeriesVaultModel" "catalogBlocks" "I" ∈ aW := aw_of (tb_9 (List.mem_of_getElem? (i := 45) rfl)) rfl
theorem w98 : Cond.laysFinal "SeriesVaultModel" "SeriesVaultModel" "pointSeries" "[I" ∈ aW := aw_of (tb_9 (List.mem_of_getElem? (i := 47) rfl)) rfl
theorem w99 : Cond.laysFinal "SeriesVaultModel" "SeriesVaultModel" "pointTimes" "[J" ∈ aW := aw_of (tb_9 (List.mem_of_getElem? (i := 49) rfl)) rfl
theorem w100 : Cond.laysFinal "SeriesVaultModel" "SeriesVaultModel" "pointValues" "[J" ∈ aW := aw_of (tb_9 (List.mem_of_getElem? (i := 51) rfl)) rfl
theorem w101 : Cond.laysFinal "SeriesVaultModel" "SeriesVaultModel" "places" "[I" ∈ aW := aw_of (tb_9 (List.mem_of_getElem? (i := 53) rfl)) rfl
theorem w102 : Cond.laysFinal "SeriesVaultModel" "SeriesVaultModel" "hidden" "[I" ∈ aW := aw_of (tb_9 (List.mem_of_getElem? (i := 55) rfl)) rfl
theorem w103 : Cond.laysFinal "SeriesVaultModel" "SeriesVaultModel" "baseHidden" "[I" ∈ aW := aw_of (tb_9 (List.mem_of_getElem? (i := 57) rfl)) rfl
theorem w104 : Cond.lays "SeriesVaultModel" "SeriesVaultModel" "points" "I" ∈ aW := aw_of (tb_9 (List.mem_of_getElem? (i := 59) rfl)) rfl
theorem w105 : Cond.lays "SeriesVaultModel" "SeriesVaultModel" "horizon" "J" ∈ aW := aw_of (tb_9 (List.mem_of_getElem? (i := 61) rfl)) rfl
theorem w106 : Cond.lays "SeriesVaultModel" "SeriesVaultModel" "baseHorizon" "J" ∈ aW := aw_of (tb_9 (List.mem_of_getElem? (i := 63) rfl)) rfl
theorem w107 : Cond.laysFinal "SeriesVaultModel" "SeriesVaultModel" "parcels" "[I" ∈ aW := aw_of (tb_9 (List.mem_of_getElem? (i := 65) rfl)) rfl
theorem w108 : Cond.laysFinal "SeriesVaultModel" "SeriesVaultModel" "parcelBlocks" "[I" ∈ aW := aw_of (tb_9 (List.mem_of_getElem? (i := 67) rfl)) rfl
theorem w109 : Cond.lays "SeriesVaultModel" "SeriesVaultModel" "parcelCount" "I" ∈ aW := aw_of (tb_9 (List.mem_of_getElem? (i := 69) rfl)) rfl
theorem w110 : Cond.lays "SeriesVaultModel" "SeriesVaultModel" "parcelNumber" "I" ∈ aW := aw_of (tb_9 (List.mem_of_getElem? (i := 71) rfl)) rfl
theorem w111 : Cond.lays "SeriesVaultModel" "SeriesVaultModel" "deletes" "I" ∈ aW := aw_of (tb_9 (List.mem_of_getElem? (i := 73) rfl)) rfl
theorem w112 : Cond.laysFinal "SeriesVaultModel" "SeriesVaultModel" "kinds" "[B" ∈ aW := aw_of (tb_9 (List.mem_of_getElem? (i := 75) rfl)) rfl
theorem w113 : Cond.laysFinal "SeriesVaultModel" "SeriesVaultModel" "recordSeries" "[I" ∈ aW := aw_of (tb_9 (List.mem_of_getElem? (i := 77) rfl)) rfl
theorem w114 : Cond.laysFinal "SeriesVaultModel" "SeriesVaultModel" "firsts" "[J" ∈ aW := aw_of (tb_9 (List.mem_of_getElem? (i := 79) rfl)) rfl
theorem w115 : Cond.laysFinal "SeriesVaultModel" "SeriesVaultModel" "seconds" "[J" ∈ aW := aw_of (tb_9 (List.mem_of_getElem? (i := 81) rfl)) rfl
theorem w116 : Cond.laysFinal "SeriesVaultModel" "SeriesVaultModel" "units" "[I" ∈ aW := aw_of (tb_9 (List.mem_of_getElem? (i := 83) rfl)) rfl
theorem w117 : Cond.laysFinal "SeriesVaultModel" "SeriesVaultModel" "recordBlocks" "[I" ∈ aW := aw_of (tb_9 (List.mem_of_getElem? (i := 85) rfl)) rfl
theorem w118 : Cond.lays "SeriesVaultModel" "SeriesVaultModel" "records" "I" ∈ aW := aw_of (tb_9 (List.mem_of_getElem? (i := 87) rfl)) rfl
theorem w119 : Cond.lays "SeriesVaultModel" "SeriesVaultModel" "kept" "I" ∈ aW := aw_of (tb_9 (List.mem_of_getElem? (i := 89) rfl)) rfl
theorem w120 : Cond.lays "SeriesVaultModel" "SeriesVaultModel" "block" "I" ∈ aW := aw_of (tb_9 (List.mem_of_getElem? (i := 91) rfl)) rfl
theorem w121 : Cond.lays "SeriesVaultModel" "SeriesVaultModel" "used" "I" ∈ aW := aw_of (tb_9 (List.mem_of_getElem? (i := 93) rfl)) rfl
theorem w122 : Cond.lays "SeriesVaultModel" "SeriesVaultModel" "fresh" "Z" ∈ aW := aw_of (tb_9 (List.mem_of_getElem? (i := 95) rfl)) rfl
theorem w123 : Cond.laysFinal "SeriesVaultModel" "SeriesVaultModel" "labels" "[I" ∈ aW := aw_of (tb_9 (List.mem_of_getElem? (i := 97) rfl)) rfl
theorem w124 : Cond.lays "SeriesVaultModel" "SeriesVaultModel" "labelCount" "I" ∈ aW := aw_of (tb_9 (List.mem_of_getElem? (i := 99) rfl)) rfl
theorem w125 : Cond.lays "SeriesVaultModel" "SeriesVaultModel" "kind" "I" ∈ aW := aw_of (tb_9 (List.mem_of_getElem? (i := 101) rfl)) rfl
theorem w126 : Cond.lays "SeriesVaultModel" "SeriesVaultModel" "from" "I" ∈ aW := aw_of (tb_9 (List.mem_of_getElem? (i := 103) rfl)) rfl
theorem w127 : Cond.lays "SeriesVaultModel" "SeriesVaultModel" "to" "I" ∈ aW := aw_of (tb_9 (List.mem_of_getElem? (i := 105) rfl)) rfl
theorem w128 : Cond.lays "SeriesVaultModel" "SeriesVaultModel" "amount" "J" ∈ aW := aw_of (tb_9 (List.mem_of_getElem? (i := 107) rfl)) rfl
theorem w129 : Cond.laysFinal "SeriesVaultModel" "SeriesVaultModel" "tableNames" "[I" ∈ aW := aw_of (tb_9 (List.mem_of_getElem? (i := 109) rfl)) rfl
theorem w130 : Cond.laysFinal "SeriesVaultModel" "SeriesVaultModel" "nameFroms" "[I" ∈ aW := aw_of (tb_9 (List.mem_of_getElem? (i := 111) rfl)) rfl
theorem w131 : Cond.laysFinal "SeriesVaultModel" "SeriesVaultModel" "nameLengths" "[I" ∈ aW := aw_of (tb_9 (List.mem_of_getElem? (i := 113) rfl)) rfl
theorem w132 : Cond.laysFinal "SeriesVaultModel" "SeriesVaultModel" "tableRows" "[I" ∈ aW := aw_of (tb_9 (List.mem_of_getElem? (i := 115) rfl)) rfl
theorem w133 : Cond.laysFinal "SeriesVaultModel" "SeriesVaultModel" "rowSeries" "[I" ∈ aW := aw_of (tb_9 (List.mem_of_getElem? (i := 117) rfl)) rfl
theorem w134 : Cond.laysFinal "SeriesVaultModel" "SeriesVaultModel" "cells" "[J" ∈ aW := aw_of (tb_9 (List.mem_of_getElem? (i := 119) rfl)) rfl
theorem w135 : Cond.laysFinal "SeriesVaultModel" "SeriesVaultModel" "isCell" "[Z" ∈ aW := aw_of (tb_9 (List.mem_of_getElem? (i := 121) rfl)) rfl
theorem w136 : Cond.lays "SeriesVaultModel" "SeriesVaultModel" "pile" "I" ∈ aW := aw_of (tb_9 (List.mem_of_getElem? (i := 123) rfl)) rfl
theorem w137 : Cond.lays "SeriesVaultModel" "SeriesVaultModel" "works" "Z" ∈ aW := aw_of (tb_9 (List.mem_of_getElem? (i := 125) rfl)) rfl
theorem w138 : Cond.lays "SeriesVaultModel" "SeriesVaultModel" "windowsFrom" "J" ∈ aW := aw_of (tb_9 (List.mem_of_getElem? (i := 127) rfl)) rfl
theorem w139 : Cond.lays "SeriesVaultModel" "SeriesVaultModel" "width" "J" ∈ aW := aw_of (tb_9 (List.mem_of_getElem? (i := 129) rfl)) rfl
theorem w140 : Cond.lays "SeriesVaultModel" "SeriesVaultModel" "windows" "I" ∈ aW := aw_of (tb_9 (List.mem_of_getElem? (i := 131) rfl)) rfl
theorem w141 : Cond.lays "SeriesVaultModel" "SeriesVaultModel" "valueLength" "I" ∈ aW := aw_of (tb_9 (List.mem_of_getElem? (i := 133) rfl)) rfl
theorem w142 : Cond.laysFinal "SeriesVaultModel" "SeriesVaultModel" "rowOf" "[I" ∈ aW := aw_of (tb_9 (List.mem_of_getElem? (i := 135) rfl)) rfl
theorem w143 : Cond.laysFinal "SeriesVaultModel" "SeriesVaultModel" "keyTimes" "[J" ∈ aW := aw_of (tb_9 (List.mem_of_getElem? (i := 137) rfl)) rfl
theorem w144 : Cond.laysFinal "SeriesVaultModel" "SeriesVaultModel" "keySeries" "[I" ∈ aW := aw_of (tb_9 (List.mem_of_getElem? (i := 139) rfl)) rfl
theorem w145 : Cond.laysFinal "SeriesVaultModel" "SeriesVaultModel" "befores" "[J" ∈ aW := aw_of (tb_9 (List.mem_of_getElem? (i := 141) rfl)) rfl
theorem w146 : Cond.laysFinal "SeriesVaultModel" "SeriesVaultModel" "hasBefore" "[Z" ∈ aW := aw_of (tb_9 (List.mem_of_getElem? (i := 143) rfl)) rfl
theorem w147 : Cond.laysFinal "SeriesVaultModel" "SeriesVaultModel" "signs" "[I" ∈ aW := aw_of (tb_9 (List.mem_of_getElem? (i := 145) rfl)) rfl
theorem w148 : Cond.laysFinal "SeriesVaultModel" "SeriesVaultModel" "signPlaces" "[I" ∈ aW := aw_of (tb_9 (List.mem_of_getElem? (i := 147) rfl)) rfl
theorem w149 : Cond.lays "SeriesVaultModel" "SeriesVaultModel" "signCount" "I" ∈ aW := aw_of (tb_9 (List.mem_of_getElem? (i := 149) rfl)) rfl
theorem w150 : Cond.lays "SeriesVaultModel" "SeriesVaultModel" "open" "I" ∈ aW := aw_of (tb_9 (List.mem_of_getElem? (i := 151) rfl)) rfl
theorem w151 : Cond.lays "SeriesVaultModel" "SeriesVaultModel" "wants" "Z" ∈ aW := aw_of (tb_9 (List.mem_of_getElem? (i := 153) rfl)) rfl
theorem w152 : Cond.lays "SeriesVaultModel" "SeriesVaultModel" "isTable" "Z" ∈ aW := aw_of (tb_9 (List.mem_of_getElem? (i := 155) rfl)) rfl
theorem w153 : Cond.lays "SeriesVaultModel" "SeriesVaultModel" "names" "I" ∈ aW := aw_of (tb_9 (List.mem_of_getElem? (i := 157) rfl)) rfl
theorem w154 : Cond.lays "SeriesVaultModel" "SeriesVaultModel" "rows" "I" ∈ aW := aw_of (tb_9 (List.mem_of_getElem? (i := 159) rfl)) rfl
theorem w155 : Cond.lays "SeriesVaultModel" "SeriesVaultModel" "shownWindows" "I" ∈ aW := aw_of (tb_9 (List.mem_of_getElem? (i := 161) rfl)) rfl
theorem w156 : Cond.laysFinal "SeriesVaultModel" "SeriesVaultModel" "rowTexts" "[B" ∈ aW := aw_of (tb_9 (List.mem_of_getElem? (i := 163) rfl)) rfl
theorem w157 : Cond.laysFinal "SeriesVaultModel" "SeriesVaultModel" "rowLengths" "[I" ∈ aW := aw_of (tb_9 (List.mem_of_getElem? (i := 165) rfl)) rfl
theorem w158 : Cond.laysFinal "SeriesVaultModel" "SeriesVaultModel" "shown" "[J" ∈ aW := aw_of (tb_9 (List.mem_of_getElem? (i := 167) rfl)) rfl
theorem w159 : Cond.laysFinal "SeriesVaultModel" "SeriesVaultModel" "isShown" "[Z" ∈ aW := aw_of (tb_9 (List.mem_of_getElem? (i := 169) rfl)) rfl
theorem w160 : Cond.laysFinal "SeriesVault$Word" "SeriesVault$Word" "bytes" "[B" ∈ aW := aw_of (tb_4 (List.mem_of_getElem? (i := 221) rfl)) rfl
theorem w161 : Cond.laysFinal "SeriesVault$Series" "SeriesVault$Series" "names" "[LSeriesVault$Word;" ∈ aW := aw_of (tb_5 (List.mem_of_getElem? (i := 9) rfl)) rfl
theorem w162 : Cond.laysFinal "SeriesVault$Series" "SeriesVault$Series" "values" "[LSeriesVault$Word;" ∈ aW := aw_of (tb_5 (List.mem_of_getElem? (i := 11) rfl)) rfl
theorem w163 : Cond.laysFinal "SeriesVault$Series" "SeriesVault$Series" "nothing" "LSeriesVault$Word;" ∈ aW := aw_of (tb_5 (List.mem_of_getElem? (i := 13) rfl)) rfl
theorem w164 : Cond.laysFinal "SeriesVault$Series" "SeriesVault$Series" "text" "LSeriesVault$Word;" ∈ aW := aw_of (tb_5 (List.mem_of_getElem? (i := 15) rfl)) rfl
theorem w165 : Cond.laysFinal "SeriesVault$Parcel" "SeriesVault$Parcel" "owners" "[I" ∈ aW := aw_of (tb_6 (List.mem_of_getElem? (i := 66) rfl)) rfl
theorem w166 : Cond.laysFinal "SeriesVault$Parcel" "SeriesVault$Parcel" "times" "[J" ∈ aW := aw_of (tb_6 (List.mem_of_getElem? (i := 68) rfl)) rfl
theorem w167 : Cond.laysFinal "SeriesVault$Parcel" "SeriesVault$Parcel" "values" "[J" ∈ aW := aw_of (tb_6 (List.mem_of_getElem? (i := 70) rfl)) rfl
theorem w168 : Cond.laysFinal "SeriesVault$Parcel" "SeriesVault$Parcel" "size" "I" ∈ aW := aw_of (tb_6 (List.mem_of_getElem? (i := 72) rfl)) rfl
theorem w169 : Cond.laysFinal "SeriesVault$Parcel" "SeriesVault$Parcel" "chunks" "I" ∈ aW := aw_of (tb_6 (List.mem_of_getElem? (i := 74) rfl)) rfl
theorem w170 : Cond.laysFinal "SeriesVault$Parcel" "SeriesVault$Parcel" "bits" "I" ∈ aW := aw_of (tb_6 (List.mem_of_getElem? (i := 76) rfl)) rfl
theorem w171 : Cond.laysFinal "SeriesVault$Parcel" "SeriesVault$Parcel" "blocks" "I" ∈ aW := aw_of (tb_6 (List.mem_of_getElem? (i := 78) rfl)) rfl
theorem w172 : Cond.laysFinal "SeriesVault$Parcel" "SeriesVault$Parcel" "newest" "J" ∈ aW := aw_of (tb_6 (List.mem_of_getElem? (i := 80) rfl)) rfl
theorem w173 : Cond.laysFinal "SeriesVault$Step" "SeriesVault$Step" "kind" "I" ∈ aW := aw_of (tb_7 (List.mem_of_getElem? (i := 23) rfl)) rfl
theorem w174 : Cond.laysFinal "SeriesVault$Step" "SeriesVault$Step" "place" "I" ∈ aW := aw_of (tb_7 (List.mem_of_getElem? (i := 25) rfl)) rfl
theorem w175 : Cond.laysFinal "SeriesVault$Step" "SeriesVault$Step" "number" "J" ∈ aW := aw_of (tb_7 (List.mem_of_getElem? (i := 27) rfl)) rfl
theorem w176 : Cond.laysFinal "SeriesVault$Step" "SeriesVault$Step" "names" "[LSeriesVault$Word;" ∈ aW := aw_of (tb_7 (List.mem_of_getElem? (i := 29) rfl)) rfl
theorem w177 : Cond.lays "SeriesVault$Step" "SeriesVault$Step" "nameCount" "I" ∈ aW := aw_of (tb_7 (List.mem_of_getElem? (i := 31) rfl)) rfl
theorem w178 : Cond.laysFinal "SeriesVault$Step" "SeriesVault$Step" "matchNames" "Ljava/util/ArrayList;" ∈ aW := aw_of (tb_7 (List.mem_of_getElem? (i := 33) rfl)) rfl
theorem w179 : Cond.laysFinal "SeriesVault$Step" "SeriesVault$Step" "matchTexts" "Ljava/util/ArrayList;" ∈ aW := aw_of (tb_7 (List.mem_of_getElem? (i := 35) rfl)) rfl
theorem w180 : Cond.lays "SeriesVault$Step" "SeriesVault$Step" "matchKinds" "[I" ∈ aW := aw_of (tb_7 (List.mem_of_getElem? (i := 37) rfl)) rfl
def TV : u_T := fun k => match k with
  | 0 => ("SeriesVault", "tape", "[B", false)
  | 1 => ("SeriesVault", "tapeLength", "I", false)
  | 2 => ("SeriesVault", "faultCode", "I", false)
  | 3 => ("SeriesVault", "faultPlace", "I", false)
  | 4 => ("SeriesVault", "diskBlocks", "I", false)
  | 5 => ("SeriesVault", "powered", "Z", false)
  | 6 => ("SeriesVault", "cutLeft", "I", false)
  | 7 => ("SeriesVault", "writes", "I", false)
  | 8 => ("SeriesVault", "journal", "LSeriesVault$Journal;", true)
  | 9 => ("SeriesVault", "head", "LSeriesVault$Points;", true)
  | 10 => ("SeriesVault", "gathered", "LSeriesVault$Points;", true)
  | 11 => ("SeriesVault", "now", "LSeriesVault$Shelf;", true)
  | 12 => ("SeriesVault", "saved", "LSeriesVault$Shelf;", true)
  | 13 => ("SeriesVault", "known", "[LSeriesVault$Series;", true)
  | 14 => ("SeriesVault", "reader", "LSeriesVault$SeriesReader;", true)
  | 15 => ("SeriesVault", "question", "LSeriesVault$Question;", true)
  | 16 => ("SeriesVault", "answers", "LSeriesVault$Answers;", true)
  | _ => ("SeriesVault", "hasTable", "Z", false)
def tyV : Nat → FieldType := fun k => match k with
  | 0 => .array .byte
  | 1 => .int
  | 2 => .int
  | 3 => .int
  | 4 => .int
  | 5 => .boolean
  | 6 => .int
  | 7 => .int
  | 8 => .object "SeriesVault$Journal"
  | 9 => .object "SeriesVault$Points"
  | 10 => .object "SeriesVault$Points"
  | 11 => .object "SeriesVault$Shelf"
  | 12 => .object "SeriesVault$Shelf"
  | 13 => .array (.object "SeriesVault$Series")
  | 14 => .object "SeriesVault$SeriesReader"
  | 15 => .object "SeriesVault$Question"
  | 16 => .object "SeriesVault$Answers"
  | _ => .boolean
set_option maxRecDepth 100000 in
theorem nmV : ∀ a, a < 18 → ∀ b, b < 18 → a ≠ b → (TV a).2.1 ≠ (TV b).2.1 := by decide +kernel
set_option maxRecDepth 100000 in
theorem tokV : ∀ k, k < 18 → parseFieldDescriptor (TV k).2.2.1 = some (tyV k) := by decide +kernel
theorem layV : ∀ w ∈ u_ws "SeriesVault" TV 18, w ∈ aW := List.forall_mem_cons.mpr ⟨w0, List.forall_mem_cons.mpr ⟨w1, List.forall_mem_cons.mpr ⟨w2, List.forall_mem_cons.mpr ⟨w3, List.forall_mem_cons.mpr ⟨w4, List.forall_mem_cons.mpr ⟨w5, List.forall_mem_cons.mpr ⟨w6, List.forall_mem_cons.mpr ⟨w7, List.forall_mem_cons.mpr ⟨w8, List.forall_mem_cons.mpr ⟨w9, List.forall_mem_cons.mpr ⟨w10, List.forall_mem_cons.mpr ⟨w11, List.forall_mem_cons.mpr ⟨w12, List.forall_mem_cons.mpr ⟨w13, List.forall_mem_cons.mpr ⟨w14, List.forall_mem_cons.mpr ⟨w15, List.forall_mem_cons.mpr ⟨w16, List.forall_mem_cons.mpr ⟨w17, fun _ h => absurd h List.not_mem_nil⟩⟩⟩⟩⟩⟩⟩⟩⟩⟩⟩⟩⟩⟩⟩⟩⟩⟩
def TJ : u_T := fun k => match k with
  | 0 => ("SeriesVault$Journal", "kinds", "[I", false)
  | 1 => ("SeriesVault$Journal", "owners", "[I", false)
  | 2 => ("SeriesVault$Journal", "unitsOf", "[I", false)
  | 3 => ("SeriesVault$Journal", "blocksOf", "[I", false)
  | 4 => ("SeriesVault$Journal", "firsts", "[J", false)
  | 5 => ("SeriesVault$Journal", "seconds", "[J", false)
  | 6 => ("SeriesVault$Journal", "size", "I", false)
  | 7 => ("SeriesVault$Journal", "kept", "I", false)
  | 8 => ("SeriesVault$Journal", "units", "I", false)
  | 9 => ("SeriesVault$Journal", "blockLimit", "I", false)
  | 10 => ("SeriesVault$Journal", "block", "I", false)
  | 11 => ("SeriesVault$Journal", "fill", "I", false)
  | _ => ("SeriesVault$Journal", "changed", "Z", false)
def tyJ : Nat → FieldType := fun k => match k with
  | 0 => .array .int
  | 1 => .array .int
  | 2 => .array .int
  | 3 => .array .int
  | 4 => .array .long
  | 5 => .array .long
  | 6 => .int
  | 7 => .int
  | 8 => .int
  | 9 => .int
  | 10 => .int
  | 11 => .int
  | _ => .boolean
set_option maxRecDepth 100000 in
theorem nmJ : ∀ a, a < 13 → ∀ b, b < 13 → a ≠ b → (TJ a).2.1 ≠ (TJ b).2.1 := by decide +kernel
set_option maxRecDepth 100000 in
theorem tokJ : ∀ k, k < 13 → parseFieldDescriptor (TJ k).2.2.1 = some (tyJ k) := by decide +kernel
theorem layJ : ∀ w ∈ u_ws "SeriesVault$Journal" TJ 13, w ∈ aW := List.forall_mem_cons.mpr ⟨w18, List.forall_mem_cons.mpr ⟨w19, List.forall_mem_cons.mpr ⟨w20, List.forall_mem_cons.mpr ⟨w21, List.forall_mem_cons.mpr ⟨w22, List.forall_mem_cons.mpr ⟨w23, List.forall_mem_cons.mpr ⟨w24, List.forall_mem_cons.mpr ⟨w25, List.forall_mem_cons.mpr ⟨w26, List.forall_mem_cons.mpr ⟨w27, List.forall_mem_cons.mpr ⟨w28, List.forall_mem_cons.mpr ⟨w29, List.forall_mem_cons.mpr ⟨w30, fun _ h => absurd h List.not_mem_nil⟩⟩⟩⟩⟩⟩⟩⟩⟩⟩⟩⟩⟩
def TP : u_T := fun k => match k with
  | 0 => ("SeriesVault$Points", "owners", "[I", false)
  | 1 => ("SeriesVault$Points", "times", "[J", false)
  | 2 => ("SeriesVault$Points", "values", "[J", false)
  | _ => ("SeriesVault$Points", "size", "I", false)
def tyP : Nat → FieldType := fun k => match k with
  | 0 => .array .int
  | 1 => .array .long
  | 2 => .array .long
  | _ => .int
set_option maxRecDepth 100000 in
theorem nmP : ∀ a, a < 4 → ∀ b, b < 4 → a ≠ b → (TP a).2.1 ≠ (TP b).2.1 := by decide +kernel
set_option maxRecDepth 100000 in
theorem tokP : ∀ k, k < 4 → parseFieldDescriptor (TP k).2.2.1 = some (tyP k) := by decide +kernel
theorem layP : ∀ w ∈ u_ws "SeriesVault$Points" TP 4, w ∈ aW := List.forall_mem_cons.mpr ⟨w31, List.forall_mem_cons.mpr ⟨w32, List.forall_mem_cons.mpr ⟨w33, List.forall_mem_cons.mpr ⟨w34, fun _ h => absurd h List.not_mem_nil⟩⟩⟩⟩
def TH : u_T := fun k => match k with
  | 0 => ("SeriesVault$Shelf", "parcels", "[LSeriesVault$Parcel;", true)
  | 1 => ("SeriesVault$Shelf", "parcelCount", "I", false)
  | 2 => ("SeriesVault$Shelf", "scarOwners", "[I", true)
  | 3 => ("SeriesVault$Shelf", "scarFroms", "[J", true)
  | 4 => ("SeriesVault$Shelf", "scarTos", "[J", true)
  | 5 => ("SeriesVault$Shelf", "scarPoints", "[I", true)
  | 6 => ("SeriesVault$Shelf", "scarCount", "I", false)
  | 7 => ("SeriesVault$Shelf", "horizon", "J", false)
  | 8 => ("SeriesVault$Shelf", "seriesCount", "I", false)
  | 9 => ("SeriesVault$Shelf", "lasts", "[J", true)
  | _ => ("SeriesVault$Shelf", "catalogBlocks", "I", false)
def tyH : Nat → FieldType := fun k => match k with
  | 0 => .array (.object "SeriesVault$Parcel")
  | 1 => .int
  | 2 => .array .int
  | 3 => .array .long
  | 4 => .array .long
  | 5 => .array .int
  | 6 => .int
  | 7 => .long
  | 8 => .int
  | 9 => .array .long
  | _ => .int
set_option maxRecDepth 100000 in
theorem nmH : ∀ a, a < 11 → ∀ b, b < 11 → a ≠ b → (TH a).2.1 ≠ (TH b).2.1 := by decide +kernel
set_option maxRecDepth 100000 in
theorem tokH : ∀ k, k < 11 → parseFieldDescriptor (TH k).2.2.1 = some (tyH k) := by decide +kernel
theorem layH : ∀ w ∈ u_ws "SeriesVault$Shelf" TH 11, w ∈ aW := List.forall_mem_cons.mpr ⟨w35, List.forall_mem_cons.mpr ⟨w36, List.forall_mem_cons.mpr ⟨w37, List.forall_mem_cons.mpr ⟨w38, List.forall_mem_cons.mpr ⟨w39, List.forall_mem_cons.mpr ⟨w40, List.forall_mem_cons.mpr ⟨w41, List.forall_mem_cons.mpr ⟨w42, List.forall_mem_cons.mpr ⟨w43, List.forall_mem_cons.mpr ⟨w44, List.forall_mem_cons.mpr ⟨w45, fun _ h => absurd h List.not_mem_nil⟩⟩⟩⟩⟩⟩⟩⟩⟩⟩⟩
def TR : u_T := fun k => match k with
  | 0 => ("SeriesVault$SeriesReader", "nameStarts", "[I", true)
  | 1 => ("SeriesVault$SeriesReader", "nameEnds", "[I", true)
  | 2 => ("SeriesVault$SeriesReader", "valueEnds", "[I", true)
  | 3 => ("SeriesVault$SeriesReader", "labels", "I", false)
  | 4 => ("SeriesVault$SeriesReader", "faultCode", "I", false)
  | _ => ("SeriesVault$SeriesReader", "faultPlace", "I", false)
def tyR : Nat → FieldType := fun k => match k with
  | 0 => .array .int
  | 1 => .array .int
  | 2 => .array .int
  | 3 => .int
  | 4 => .int
  | _ => .int
set_option maxRecDepth 100000 in
theorem nmR : ∀ a, a < 6 → ∀ b, b < 6 → a ≠ b → (TR a).2.1 ≠ (TR b).2.1 := by decide +kernel
set_option maxRecDepth 100000 in
theorem tokR : ∀ k, k < 6 → parseFieldDescriptor (TR k).2.2.1 = some (tyR k) := by decide +kernel
theorem layR : ∀ w ∈ u_ws "SeriesVault$SeriesReader" TR 6, w ∈ aW := List.forall_mem_cons.mpr ⟨w46, List.forall_mem_cons.mpr ⟨w47, List.forall_mem_cons.mpr ⟨w48, List.forall_mem_cons.mpr ⟨w49, List.forall_mem_cons.mpr ⟨w50, List.forall_mem_cons.mpr ⟨w51, fun _ h => absurd h List.not_mem_nil⟩⟩⟩⟩⟩⟩
def TQ : u_T := fun k => match k with
  | 0 => ("SeriesVault$Question", "tape", "[B", false)
  | 1 => ("SeriesVault$Question", "length", "I", false)
  | 2 => ("SeriesVault$Question", "tokenKind", "I", false)
  | 3 => ("SeriesVault$Question", "tokenStart", "I", false)
  | 4 => ("SeriesVault$Question", "tokenEnd", "I", false)
  | 5 => ("SeriesVault$Question", "tokenNumber", "J", false)
  | 6 => ("SeriesVault$Question", "faultCode", "I", false)
  | 7 => ("SeriesVault$Question", "faultPlace", "I", false)
  | _ => ("SeriesVault$Question", "steps", "Ljava/util/ArrayList;", true)
def tyQ : Nat → FieldType := fun k => match k with
  | 0 => .array .byte
  | 1 => .int
  | 2 => .int
  | 3 => .int
  | 4 => .int
  | 5 => .long
  | 6 => .int
  | 7 => .int
  | _ => .object "java/util/ArrayList"
set_option maxRecDepth 100000 in
theorem nmQ : ∀ a, a < 9 → ∀ b, b < 9 → a ≠ b → (TQ a).2.1 ≠ (TQ b).2.1 := by decide +kernel
set_option maxRecDepth 100000 in
theorem tokQ : ∀ k, k < 9 → parseFieldDescriptor (TQ k).2.2.1 = some (tyQ k) := by decide +kernel
theorem layQ : ∀ w ∈ u_ws "SeriesVault$Question" TQ 9, w ∈ aW := List.forall_mem_cons.mpr ⟨w52, List.forall_mem_cons.mpr ⟨w53, List.forall_mem_cons.mpr ⟨w54, List.forall_mem_cons.mpr ⟨w55, List.forall_mem_cons.mpr ⟨w56, List.forall_mem_cons.mpr ⟨w57, List.forall_mem_cons.mpr ⟨w58, List.forall_mem_cons.mpr ⟨w59, List.forall_mem_cons.mpr ⟨w60, fun _ h => absurd h List.not_mem_nil⟩⟩⟩⟩⟩⟩⟩⟩⟩
def TL : u_T := fun k => match k with
  | 0 => ("java/util/ArrayList", "elementData", "[Ljava/lang/Object;", false)
  | 1 => ("java/util/ArrayList", "size", "I", false)
  | _ => ("java/util/AbstractList", "modCount", "I", false)
def tyL : Nat → FieldType := fun k => match k with
  | 0 => .array (.object "java/lang/Object")
  | 1 => .int
  | _ => .int
set_option maxRecDepth 100000 in
theorem nmL : ∀ a, a < 3 → ∀ b, b < 3 → a ≠ b → (TL a).2.1 ≠ (TL b).2.1 := by decide +kernel
set_option maxRecDepth 100000 in
theorem tokL : ∀ k, k < 3 → parseFieldDescriptor (TL k).2.2.1 = some (tyL k) := by decide +kernel
theorem layL : ∀ w ∈ u_ws "java/util/ArrayList" TL 3, w ∈ aW := List.forall_mem_cons.mpr ⟨w61, List.forall_mem_cons.mpr ⟨w62, List.forall_mem_cons.mpr ⟨w63, fun _ h => absurd h List.not_mem_nil⟩⟩⟩
def TA : u_T := fun k => match k with
  | 0 => ("SeriesVault$Answers", "stack", "Ljava/util/ArrayList;", true)
  | 1 => ("SeriesVault$Answers", "depth", "I", false)
  | 2 => ("SeriesVault$Answers", "rowOf", "[I", true)
  | 3 => ("SeriesVault$Answers", "hasBefore", "[Z", true)
  | 4 => ("SeriesVault$Answers", "before", "[J", true)
  | 5 => ("SeriesVault$Answers", "bestTimes", "[J", false)
  | 6 => ("SeriesVault$Answers", "bestOwners", "[I", false)
  | 7 => ("SeriesVault$Answers", "from", "J", false)
  | 8 => ("SeriesVault$Answers", "width", "J", false)
  | _ => ("SeriesVault$Answers", "windows", "I", false)
def tyA : Nat → FieldType := fun k => match k with
  | 0 => .object "java/util/ArrayList"
  | 1 => .int
  | 2 => .array .int
  | 3 => .array .boolean
  | 4 => .array .long
  | 5 => .array .long
  | 6 => .array .int
  | 7 => .long
  | 8 => .long
  | _ => .int
set_option maxRecDepth 100000 in
theorem nmA : ∀ a, a < 10 → ∀ b, b < 10 → a ≠ b → (TA a).2.1 ≠ (TA b).2.1 := by decide +kernel
set_option maxRecDepth 100000 in
theorem tokA : ∀ k, k < 10 → parseFieldDescriptor (TA k).2.2.1 = some (tyA k) := by decide +kernel
theorem layA : ∀ w ∈ u_ws "SeriesVault$Answers" TA 10, w ∈ aW := List.forall_mem_cons.mpr ⟨w64, List.forall_mem_cons.mpr ⟨w65, List.forall_mem_cons.mpr ⟨w66, List.forall_mem_cons.mpr ⟨w67, List.forall_mem_cons.mpr ⟨w68, List.forall_mem_cons.mpr ⟨w69, List.forall_mem_cons.mpr ⟨w70, List.forall_mem_cons.mpr ⟨w71, List.forall_mem_cons.mpr ⟨w72, List.forall_mem_cons.mpr ⟨w73, fun _ h => absurd h List.not_mem_nil⟩⟩⟩⟩⟩⟩⟩⟩⟩⟩
def TT : u_T := fun k => match k with
  | 0 => ("SeriesVault$Table", "names", "[LSeriesVault$Word;", true)
  | 1 => ("SeriesVault$Table", "nameCount", "I", false)
  | 2 => ("SeriesVault$Table", "windows", "I", false)
  | 3 => ("SeriesVault$Table", "rowCount", "I", false)
  | 4 => ("SeriesVault$Table", "rowSeries", "[LSeriesVault$Series;", true)
  | 5 => ("SeriesVault$Table", "there", "[J", true)
  | _ => ("SeriesVault$Table", "cells", "[J", false)
def tyT : Nat → FieldType := fun k => match k with
  | 0 => .array (.object "SeriesVault$Word")
  | 1 => .int
  | 2 => .int
  | 3 => .int
  | 4 => .array (.object "SeriesVault$Series")
  | 5 => .array .long
  | _ => .array .long
set_option maxRecDepth 100000 in
theorem nmT : ∀ a, a < 7 → ∀ b, b < 7 → a ≠ b → (TT a).2.1 ≠ (TT b).2.1 := by decide +kernel
set_option maxRecDepth 100000 in
theorem tokT : ∀ k, k < 7 → parseFieldDescriptor (TT k).2.2.1 = some (tyT k) := by decide +kernel
theorem layT : ∀ w ∈ u_ws "SeriesVault$Table" TT 7, w ∈ aW := List.forall_mem_cons.mpr ⟨w74, List.forall_mem_cons.mpr ⟨w75, List.forall_mem_cons.mpr ⟨w76, List.forall_mem_cons.mpr ⟨w77, List.forall_mem_cons.mpr ⟨w78, List.forall_mem_cons.mpr ⟨w79, List.forall_mem_cons.mpr ⟨w80, fun _ h => absurd h List.not_mem_nil⟩⟩⟩⟩⟩⟩⟩
def TM : u_T := fun k => match k with
  | 0 => ("SeriesVaultModel", "code", "I", false)
  | 1 => ("SeriesVaultModel", "tape", "[B", true)
  | 2 => ("SeriesVaultModel", "length", "I", false)
  | 3 => ("SeriesVaultModel", "faultCode", "I", false)
  | 4 => ("SeriesVaultModel", "faultPlace", "I", false)
  | 5 => ("SeriesVaultModel", "blocks", "I", false)
  | 6 => ("SeriesVaultModel", "journal", "I", false)
  | 7 => ("SeriesVaultModel", "on", "Z", false)
  | 8 => ("SeriesVaultModel", "cutLeft", "I", false)
  | 9 => ("SeriesVaultModel", "written", "I", false)
  | 10 => ("SeriesVaultModel", "texts", "[B", true)
  | 11 => ("SeriesVaultModel", "textLengths", "[I", true)
  | 12 => ("SeriesVaultModel", "seriesCount", "I", false)
  | 13 => ("SeriesVaultModel", "lasts", "[J", true)
  | 14 => ("SeriesVaultModel", "baseSeries", "I", false)
  | 15 => ("SeriesVaultModel", "baseLasts", "[J", true)
  | 16 => ("SeriesVaultModel", "catalogBlocks", "I", false)
  | 17 => ("SeriesVaultModel", "pointSeries", "[I", true)
  | 18 => ("SeriesVaultModel", "pointTimes", "[J", true)
  | 19 => ("SeriesVaultModel", "pointValues", "[J", true)
  | 20 => ("SeriesVaultModel", "places", "[I", true)
  | 21 => ("SeriesVaultModel", "hidden", "[I", true)
  | 22 => ("SeriesVaultModel", "baseHidden", "[I", true)
  | 23 => ("SeriesVaultModel", "points", "I", false)
  | 24 => ("SeriesVaultModel", "horizon", "J", false)
  | 25 => ("SeriesVaultModel", "baseHorizon", "J", false)
  | 26 => ("SeriesVaultModel", "parcels", "[I", true)
  | 27 => ("SeriesVaultModel", "parcelBlocks", "[I", true)
  | 28 => ("SeriesVaultModel", "parcelCount", "I", false)
  | 29 => ("SeriesVaultModel", "parcelNumber", "I", false)
  | 30 => ("SeriesVaultModel", "deletes", "I", false)
  | 31 => ("SeriesVaultModel", "kinds", "[B", true)
  | 32 => ("SeriesVaultModel", "recordSeries", "[I", true)
  | 33 => ("SeriesVaultModel", "firsts", "[J", true)
  | 34 => ("SeriesVaultModel", "seconds", "[J", true)
  | 35 => ("SeriesVaultModel", "units", "[I", true)
  | 36 => ("SeriesVaultModel", "recordBlocks", "[I", true)
  | 37 => ("SeriesVaultModel", "records", "I", false)
  | 38 => ("SeriesVaultModel", "kept", "I", false)
  | 39 => ("SeriesVaultModel", "block", "I", false)
  | 40 => ("SeriesVaultModel", "used", "I", false)
  | 41 => ("SeriesVaultModel", "fresh", "Z", false)
  | 42 => ("SeriesVaultModel", "labels", "[I", true)
  | 43 => ("SeriesVaultModel", "labelCount", "I", false)
  | 44 => ("SeriesVaultModel", "kind", "I", false)
  | 45 => ("SeriesVaultModel", "from", "I", false)
  | 46 => ("SeriesVaultModel", "to", "I", false)
  | 47 => ("SeriesVaultModel", "amount", "J", false)
  | 48 => ("SeriesVaultModel", "tableNames", "[I", true)
  | 49 => ("SeriesVaultModel", "nameFroms", "[I", true)
  | 50 => ("SeriesVaultModel", "nameLengths", "[I", true)
  | 51 => ("SeriesVaultModel", "tableRows", "[I", true)
  | 52 => ("SeriesVaultModel", "rowSeries", "[I", true)
  | 53 => ("SeriesVaultModel", "cells", "[J", true)
  | 54 => ("SeriesVaultModel", "isCell", "[Z", true)
  | 55 => ("SeriesVaultModel", "pile", "I", false)
  | 56 => ("SeriesVaultModel", "works", "Z", false)
  | 57 => ("SeriesVaultModel", "windowsFrom", "J", false)
  | 58 => ("SeriesVaultModel", "width", "J", false)
  | 59 => ("SeriesVaultModel", "windows", "I", false)
  | 60 => ("SeriesVaultModel", "valueLength", "I", false)
  | 61 => ("SeriesVaultModel", "rowOf", "[I", true)
  | 62 => ("SeriesVaultModel", "keyTimes", "[J", true)
  | 63 => ("SeriesVaultModel", "keySeries", "[I", true)
  | 64 => ("SeriesVaultModel", "befores", "[J", true)
  | 65 => ("SeriesVaultModel", "hasBefore", "[Z", true)
  | 66 => ("SeriesVaultModel", "signs", "[I", true)
  | 67 => ("SeriesVaultModel", "signPlaces", "[I", true)
  | 68 => ("SeriesVaultModel", "signCount", "I", false)
  | 69 => ("SeriesVaultModel", "open", "I", false)
  | 70 => ("SeriesVaultModel", "wants", "Z", false)
  | 71 => ("SeriesVaultModel", "isTable", "Z", false)
  | 72 => ("SeriesVaultModel", "names", "I", false)
  | 73 => ("SeriesVaultModel", "rows", "I", false)
  | 74 => ("SeriesVaultModel", "shownWindows", "I", false)
  | 75 => ("SeriesVaultModel", "rowTexts", "[B", true)
  | 76 => ("SeriesVaultModel", "rowLengths", "[I", true)
  | 77 => ("SeriesVaultModel", "shown", "[J", true)
  | _ => ("SeriesVaultModel", "isShown", "[Z", true)
def tyM : Nat → FieldType := fun k => match k with
  | 0 => .int
  | 1 => .array .byte
  | 2 => .int
  | 3 => .int
  | 4 => .int
  | 5 => .int
  | 6 => .int
  | 7 => .boolean
  | 8 => .int
  | 9 => .int
  | 10 => .array .byte
  | 11 => .array .int
  | 12 => .int
  | 13 => .array .long
  | 14 => .int
  | 15 => .array .long
  | 16 => .int
  | 17 => .array .int
  | 18 => .array .long
  | 19 => .array .long
  | 20 => .array .int
  | 21 => .array .int
  | 22 => .array .int
  | 23 => .int
  | 24 => .long
  | 25 => .long
  | 26 => .array .int
  | 27 => .array .int
  | 28 => .int
  | 29 => .int
  | 30 => .int
  | 31 => .array .byte
  | 32 => .array .int
  | 33 => .array .long
  | 34 => .array .long
  | 35 => .array .int
  | 36 => .array .int
  | 37 => .int
  | 38 => .int
  | 39 => .int
  | 40 => .int
  | 41 => .boolean
  | 42 => .array .int
  | 43 => .int
  | 44 => .int
  | 45 => .int
  | 46 => .int
  | 47 => .long
  | 48 => .array .int
  | 49 => .array .int
  | 50 => .array .int
  | 51 => .array .int
  | 52 => .array .int
  | 53 => .array .long
  | 54 => .array .boolean
  | 55 => .int
  | 56 => .boolean
  | 57 => .long
  | 58 => .long
  | 59 => .int
  | 60 => .int
  | 61 => .array .int
  | 62 => .array .long
  | 63 => .array .int
  | 64 => .array .long
  | 65 => .array .boolean
  | 66 => .array .int
  | 67 => .array .int
  | 68 => .int
  | 69 => .int
  | 70 => .boolean
  | 71 => .boolean
  | 72 => .int
  | 73 => .int
  | 74 => .int
  | 75 => .array .byte
  | 76 => .array .int
  | 77 => .array .long
  | _ => .array .boolean
set_option maxRecDepth 100000 in
theorem nmM : ∀ a, a < 79 → ∀ b, b < 79 → a ≠ b → (TM a).2.1 ≠ (TM b).2.1 := by decide +kernel
set_option maxRecDepth 100000 in
theorem tokM : ∀ k, k < 79 → parseFieldDescriptor (TM k).2.2.1 = some (tyM k) := by decide +kernel
theorem layM : ∀ w ∈ u_ws "SeriesVaultModel" TM 79, w ∈ aW := List.forall_mem_cons.mpr ⟨w81, List.forall_mem_cons.mpr ⟨w82, List.forall_mem_cons.mpr ⟨w83, List.forall_mem_cons.mpr ⟨w84, List.forall_mem_cons.mpr ⟨w85, List.forall_mem_cons.mpr ⟨w86, List.forall_mem_cons.mpr ⟨w87, List.forall_mem_cons.mpr ⟨w88, List.forall_mem_cons.mpr ⟨w89, List.forall_mem_cons.mpr ⟨w90, List.forall_mem_cons.mpr ⟨w91, List.forall_mem_cons.mpr ⟨w92, List.forall_mem_cons.mpr ⟨w93, List.forall_mem_cons.mpr ⟨w94, List.forall_mem_cons.mpr ⟨w95, List.forall_mem_cons.mpr ⟨w96, List.forall_mem_cons.mpr ⟨w97, List.forall_mem_cons.mpr ⟨w98, List.forall_mem_cons.mpr ⟨w99, List.forall_mem_cons.mpr ⟨w100, List.forall_mem_cons.mpr ⟨w101, List.forall_mem_cons.mpr ⟨w102, List.forall_mem_cons.mpr ⟨w103, List.forall_mem_cons.mpr ⟨w104, List.forall_mem_cons.mpr ⟨w105, List.forall_mem_cons.mpr ⟨w106, List.forall_mem_cons.mpr ⟨w107, List.forall_mem_cons.mpr ⟨w108, List.forall_mem_cons.mpr ⟨w109, List.forall_mem_cons.mpr ⟨w110, List.forall_mem_cons.mpr ⟨w111, List.forall_mem_cons.mpr ⟨w112, List.forall_mem_cons.mpr ⟨w113, List.forall_mem_cons.mpr ⟨w114, List.forall_mem_cons.mpr ⟨w115, List.forall_mem_cons.mpr ⟨w116, List.forall_mem_cons.mpr ⟨w117, List.forall_mem_cons.mpr ⟨w118, List.forall_mem_cons.mpr ⟨w119, List.forall_mem_cons.mpr ⟨w120, List.forall_mem_cons.mpr ⟨w121, List.forall_mem_cons.mpr ⟨w122, List.forall_mem_cons.mpr ⟨w123, List.forall_mem_cons.mpr ⟨w124, List.forall_mem_cons.mpr ⟨w125, List.forall_mem_cons.mpr ⟨w126, List.forall_mem_cons.mpr ⟨w127, List.forall_mem_cons.mpr ⟨w128, List.forall_mem_cons.mpr ⟨w129, List.forall_mem_cons.mpr ⟨w130, List.forall_mem_cons.mpr ⟨w131, List.forall_mem_cons.mpr ⟨w132, List.forall_mem_cons.mpr ⟨w133, List.forall_mem_cons.mpr ⟨w134, List.forall_mem_cons.mpr ⟨w135, List.forall_mem_cons.mpr ⟨w136, List.forall_mem_cons.mpr ⟨w137, List.forall_mem_cons.mpr ⟨w138, List.forall_mem_cons.mpr ⟨w139, List.forall_mem_cons.mpr ⟨w140, List.forall_mem_cons.mpr ⟨w141, List.forall_mem_cons.mpr ⟨w142, List.forall_mem_cons.mpr ⟨w143, List.forall_mem_cons.mpr ⟨w144, List.forall_mem_cons.mpr ⟨w145, List.forall_mem_cons.mpr ⟨w146, List.forall_mem_cons.mpr ⟨w147, List.forall_mem_cons.mpr ⟨w148, List.forall_mem_cons.mpr ⟨w149, List.forall_mem_cons.mpr ⟨w150, List.forall_mem_cons.mpr ⟨w151, List.forall_mem_cons.mpr ⟨w152, List.forall_mem_cons.mpr ⟨w153, List.forall_mem_cons.mpr ⟨w154, List.forall_mem_cons.mpr ⟨w155, List.forall_mem_cons.mpr ⟨w156, List.forall_mem_cons.mpr ⟨w157, List.forall_mem_cons.mpr ⟨w158, List.forall_mem_cons.mpr ⟨w159, fun _ h => absurd h List.not_mem_nil⟩⟩⟩⟩⟩⟩⟩⟩⟩⟩⟩⟩⟩⟩⟩⟩⟩⟩⟩⟩⟩⟩⟩⟩⟩⟩⟩⟩⟩⟩⟩⟩⟩⟩⟩⟩⟩⟩⟩⟩⟩⟩⟩⟩⟩⟩⟩⟩⟩⟩⟩⟩⟩⟩⟩⟩⟩⟩⟩⟩⟩⟩⟩⟩⟩⟩⟩⟩⟩⟩⟩⟩⟩⟩⟩⟩⟩⟩⟩
def TW : u_T := fun k => match k with
  | _ => ("SeriesVault$Word", "bytes", "[B", true)
def tyW : Nat → FieldType := fun k => match k with
  | _ => .array .byte
set_option maxRecDepth 100000 in
theorem nmW : ∀ a, a < 1 → ∀ b, b < 1 → a ≠ b → (TW a).2.1 ≠ (TW b).2.1 := by decide +kernel
set_option maxRecDepth 100000 in
theorem tokW : ∀ k, k < 1 → parseFieldDescriptor (TW k).2.2.1 = some (tyW k) := by decide +kernel
theorem layW : ∀ w ∈ u_ws "SeriesVault$Word" TW 1, w ∈ aW := List.forall_mem_cons.mpr ⟨w160, fun _ h => absurd h List.not_mem_nil⟩
def TS : u_T := fun k => match k with
  | 0 => ("SeriesVault$Series", "names", "[LSeriesVault$Word;", true)
  | 1 => ("SeriesVault$Series", "values", "[LSeriesVault$Word;", true)
  | 2 => ("SeriesVault$Series", "nothing", "LSeriesVault$Word;", true)
  | _ => ("SeriesVault$Series", "text", "LSeriesVault$Word;", true)
def tyS : Nat → FieldType := fun k => match k with
  | 0 => .array (.object "SeriesVault$Word")
  | 1 => .array (.object "SeriesVault$Word")
  | 2 => .object "SeriesVault$Word"
  | _ => .object "SeriesVault$Word"
set_option maxRecDepth 100000 in
theorem nmS : ∀ a, a < 4 → ∀ b, b < 4 → a ≠ b → (TS a).2.1 ≠ (TS b).2.1 := by decide +kernel
set_option maxRecDepth 100000 in
theorem tokS : ∀ k, k < 4 → parseFieldDescriptor (TS k).2.2.1 = some (tyS k) := by decide +kernel
theorem layS : ∀ w ∈ u_ws "SeriesVault$Series" TS 4, w ∈ aW := List.forall_mem_cons.mpr ⟨w161, List.forall_mem_cons.mpr ⟨w162, List.forall_mem_cons.mpr ⟨w163, List.forall_mem_cons.mpr ⟨w164, fun _ h => absurd h List.not_mem_nil⟩⟩⟩⟩
def TC : u_T := fun k => match k with
  | 0 => ("SeriesVault$Parcel", "owners", "[I", true)
  | 1 => ("SeriesVault$Parcel", "times", "[J", true)
  | 2 => ("SeriesVault$Parcel", "values", "[J", true)
  | 3 => ("SeriesVault$Parcel", "size", "I", true)
  | 4 => ("SeriesVault$Parcel", "chunks", "I", true)
  | 5 => ("SeriesVault$Parcel", "bits", "I", true)
  | 6 => ("SeriesVault$Parcel", "blocks", "I", true)
  | _ => ("SeriesVault$Parcel", "newest", "J", true)
def tyC : Nat → FieldType := fun k => match k with
  | 0 => .array .int
  | 1 => .array .long
  | 2 => .array .long
  | 3 => .int
  | 4 => .int
  | 5 => .int
  | 6 => .int
  | _ => .long
set_option maxRecDepth 100000 in
theorem nmC : ∀ a, a < 8 → ∀ b, b < 8 → a ≠ b → (TC a).2.1 ≠ (TC b).2.1 := by decide +kernel
set_option maxRecDepth 100000 in
theorem tokC : ∀ k, k < 8 → parseFieldDescriptor (TC k).2.2.1 = some (tyC k) := by decide +kernel
theorem layC : ∀ w ∈ u_ws "SeriesVault$Parcel" TC 8, w ∈ aW := List.forall_mem_cons.mpr ⟨w165, List.forall_mem_cons.mpr ⟨w166, List.forall_mem_cons.mpr ⟨w167, List.forall_mem_cons.mpr ⟨w168, List.forall_mem_cons.mpr ⟨w169, List.forall_mem_cons.mpr ⟨w170, List.forall_mem_cons.mpr ⟨w171, List.forall_mem_cons.mpr ⟨w172, fun _ h => absurd h List.not_mem_nil⟩⟩⟩⟩⟩⟩⟩⟩
def TE : u_T := fun k => match k with
  | 0 => ("SeriesVault$Step", "kind", "I", true)
  | 1 => ("SeriesVault$Step", "place", "I", true)
  | 2 => ("SeriesVault$Step", "number", "J", true)
  | 3 => ("SeriesVault$Step", "names", "[LSeriesVault$Word;", true)
  | 4 => ("SeriesVault$Step", "nameCount", "I", false)
  | 5 => ("SeriesVault$Step", "matchNames", "Ljava/util/ArrayList;", true)
  | 6 => ("SeriesVault$Step", "matchTexts", "Ljava/util/ArrayList;", true)
  | _ => ("SeriesVault$Step", "matchKinds", "[I", false)
def tyE : Nat → FieldType := fun k => match k with
  | 0 => .int
  | 1 => .int
  | 2 => .long
  | 3 => .array (.object "SeriesVault$Word")
  | 4 => .int
  | 5 => .object "java/util/ArrayList"
  | 6 => .object "java/util/ArrayList"
  | _ => .array .int
set_option maxRecDepth 100000 in
theorem nmE : ∀ a, a < 8 → ∀ b, b < 8 → a ≠ b → (TE a).2.1 ≠ (TE b).2.1 := by decide +kernel
set_option maxRecDepth 100000 in
theorem tokE : ∀ k, k < 8 → parseFieldDescriptor (TE k).2.2.1 = some (tyE k) := by decide +kernel
theorem layE : ∀ w ∈ u_ws "SeriesVault$Step" TE 8, w ∈ aW := List.forall_mem_cons.mpr ⟨w173, List.forall_mem_cons.mpr ⟨w174, List.forall_mem_cons.mpr ⟨w175, List.forall_mem_cons.mpr ⟨w176, List.forall_mem_cons.mpr ⟨w177, List.forall_mem_cons.mpr ⟨w178, List.forall_mem_cons.mpr ⟨w179, List.forall_mem_cons.mpr ⟨w180, fun _ h => absurd h List.not_mem_nil⟩⟩⟩⟩⟩⟩⟩⟩
abbrev vwCl : List vw_C := [("SeriesVault", TV, 18), ("SeriesVault$Journal", TJ, 13), ("SeriesVault$Points", TP, 4), ("SeriesVault$Shelf", TH, 11), ("SeriesVault$SeriesReader", TR, 6), ("SeriesVault$Question", TQ, 9), ("java/util/ArrayList", TL, 3), ("SeriesVault$Answers", TA, 10), ("SeriesVault$Table", TT, 7), ("SeriesVaultModel", TM, 79), ("SeriesVault$Word", TW, 1), ("SeriesVault$Series", TS, 4), ("SeriesVault$Parcel", TC, 8), ("SeriesVault$Step", TE, 8)]
abbrev arT (dA : Nat → ClassId) : List (ClassId × FieldType) := [(dA 0, .byte), (dA 1, .int), (dA 2, .long), (dA 3, .boolean), (dA 4, .object "SeriesVault$Parcel"), (dA 5, .object "SeriesVault$Series"), (dA 6, .object "SeriesVault$Word"), (dA 7, .object "java/lang/Object")]
